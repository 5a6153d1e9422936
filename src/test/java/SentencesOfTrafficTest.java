/** Promises 5 to 12, sentence by sentence: wear, beats, corners, sheets, ticks, the pocket, eyes (terms 2). */
public final class SentencesOfTrafficTest {
    private static final Sentences S = new Sentences("SentencesOfTrafficTest");
    private static final int LEAST = Integer.MIN_VALUE;
    private static final int MOST = Integer.MAX_VALUE;
    /** A SHEET of 10 steps goes by 50 a tick: TAIL 50, 100, 150, and stands with TAIL 200. */
    private static final String SHORT = "roller 10 speed 5;roller 15 speed 5;roller 20 speed 5;";

    public static void main(String[] args) {
        set();
        corner();
        layLengths();
        layForty();
        layNotNow();
        tick();
        sheet();
        clear();
        cornerLeft();
        sees();
        passing();
        places();
        lying();
        rollersUnder();
        driveGives();
        beats();
        order();
        backBetweenTwo();
        cornersHold();
        tailsHold();
        waits();
        holds();
        outAtTheEnd();
        stood();
        jammed();
        comesBack();
        comesBackFree();
        longestFirst();
        eyesSee();
        twelvePassings();
        S.end(5, 12);
    }

    /** What sheet() answers of a SHEET: state, HEAD, side, STOOD. */
    private static void is(String when, PaperWay x, int sheet, int state, int head, int side, int stood) {
        S.due(when + ": state of " + sheet, x.sheet(sheet, 0), state);
        S.due(when + ": HEAD of " + sheet, x.sheet(sheet, 1), head);
        S.due(when + ": side of " + sheet, x.sheet(sheet, 3), side);
        S.due(when + ": STOOD of " + sheet, x.sheet(sheet, 4), stood);
    }

    /** Lays SHEETS of a length with so many TICKS behind each. */
    private static void layEach(PaperWay x, int n, int length, boolean turned, int ticks) {
        for (int i = 0; i < n; i++) {
            S.due("lay", x.lay(length, turned) >= 0, true);
            S.due("ticks", x.tick(ticks), ticks);
        }
    }

    private static void set() {
        S.promise(5, "WEAR (what 0), BEAT (1) of a ROLLER: what it was");
        PaperWay x = Due.way("roller 10 speed 5;roller 20 speed 5;");
        S.due("WEAR 7", x.set(1, 0, 7), 0);
        S.due("BEAT 9", x.set(1, 1, 9), 0);
        S.due("of ROLLER 1 alone", x.set(0, 0, 3) + x.set(0, 1, 4), 0);
        S.due("WEAR was", x.set(1, 0, 8), 7);
        S.due("BEAT was", x.set(1, 1, 10), 9);
        S.due("WEAR was", x.set(1, 0, 8), 8);
        S.due("of ROLLER 0", x.set(0, 0, 0) * 10 + x.set(0, 1, 0), 34);
        S.terms(2, "Of each ROLLER WEAR (0 to 1000; 0 at first)");
        PaperWay y = Due.way("roller 1 speed 5;roller 2 speed 5;");
        S.due("at first", y.set(0, 0, 1000) + y.set(1, 0, 1000), 0);
        S.due("1000 can be", y.set(1, 0, 0), 1000);
        S.due("0 can be", y.set(1, 0, 0), 0);
        S.terms(2, "BEAT (0: none, or 2 to 20; 0 at first)");
        S.due("at first", y.set(0, 1, 20) + y.set(1, 1, 2), 0);
        S.due("20 can be", y.set(0, 1, 0), 20);
        S.due("2 can be", y.set(1, 1, 0), 2);
        S.due("0 can be", y.set(1, 1, 0), 0);
        S.promise(5, "-3: the number");
        y.set(0, 0, 5);
        y.set(0, 1, 5);
        for (int v : new int[] {-1, 1001, LEAST, MOST}) {
            S.due("WEAR " + v, y.set(0, 0, v), -3);
        }
        for (int v : new int[] {-1, 1, 21, LEAST, MOST}) {
            S.due("BEAT " + v, y.set(0, 1, v), -3);
        }
        S.due("WEAR as it was", y.set(0, 0, 5), 5);
        S.due("BEAT as it was", y.set(0, 1, 5), 5);
        S.promise(5, "-2: no such ROLLER, what");
        for (int v : new int[] {-1, 2, 10, LEAST, MOST}) {
            S.due("ROLLER " + v, y.set(v, 0, 5), -2);
            S.due("what " + v, y.set(0, v, 5), -2);
            S.due("ahead of -3", y.set(v, 0, -1), -2);
            S.due("ahead of -3", y.set(0, v, 5000), -2);
        }
        S.due("without a WAY", new PaperWay().set(0, 0, 5), -2);
    }

    private static void corner() {
        S.promise(6, "A CORNER is left (is true) or taken away: true");
        PaperWay x = Due.way("way 40;roller 10 speed 5;");
        S.due("left", x.corner(12, true), true);
        S.due("one", x.count(7), 1);
        S.due("taken away", x.corner(12, false), true);
        S.due("none", x.count(7), 0);
        S.due("left again", x.corner(12, true), true);
        S.promise(6, "false: no such place, it is so, there are 3");
        for (int p : new int[] {0, -1, 41, LEAST, MOST}) {
            S.due("no place " + p, x.corner(p, true), false);
            S.due("no place " + p, x.corner(p, false), false);
        }
        S.due("it is there", x.corner(12, true), false);
        S.due("it isn't there", x.corner(13, false), false);
        S.due("one still", x.count(7), 1);
        S.terms(2, "CORNERS: at most 3 places (1 to LENGTH)");
        S.due("1", x.corner(1, true), true);
        S.due("LENGTH", x.corner(40, true), true);
        S.due("three", x.count(7), 3);
        S.due("no fourth", x.corner(5, true), false);
        S.due("three still", x.count(7), 3);
        S.due("not taken: none there", x.corner(5, false), false);
        S.due("there", x.corner(40, true), false);
        for (int p : new int[] {12, 1, 40}) {
            S.due("away", x.corner(p, false), true);
            S.due("room for one more", x.corner(5, true), true);
            S.due("three", x.count(7), 3);
            S.due("away", x.corner(5, false), true);
            S.due("back", x.corner(p, true), true);
        }
    }

    private static void layLengths() {
        S.promise(7, "A SHEET is laid: its number");
        PaperWay x = Due.way("roller 10 speed 9;roller 20 speed 9;roller 25 speed 9;");
        for (int i = 0; i < 3; i++) {
            S.due("lay", x.lay(10, false), i);
            x.tick(2);
        }
        S.promise(7, "-3: the length");
        PaperWay y = Due.way("roller 10 speed 5;");
        for (int length : new int[] {9, 61, 0, -10, LEAST, MOST}) {
            S.due("lay " + length, y.lay(length, false), -3);
            S.due("ahead of -5: no turn", y.lay(length, true), -3);
            S.due("ahead of -5: no ROLLER", new PaperWay().lay(length, false), -3);
        }
        S.terms(2, "a length (10 to 60 steps), whether it is to be TURNED");
        S.due("no SHEET yet", y.count(4), 0);
        S.due("10", y.lay(10, false), 0);
        S.due("60", Due.way("roller 10 speed 5;").lay(60, false), 0);
    }

    private static void layForty() {
        S.terms(2, "SHEETS, at most 40, numbered as they come");
        PaperWay x = Due.way("way 40;roller 30 speed 9;roller 39 speed 9;turn 20 back 5 hold 1 rest 1;");
        for (int i = 0; i < 40; i++) {
            S.due("lay", x.lay(10, false), i);
            S.due("SHEETS", x.count(4), i + 1);
            x.tick(2);
        }
        S.due("the last", x.sheet(39, 0), 0);
        S.due("the first is OUT", x.sheet(0, 0), 2);
        S.promise(7, "-4: there are 40");
        S.due("a 41st", x.lay(10, false), -4);
        x.tick(20);
        S.due("on an empty way, too", x.lay(10, true), -4);
        S.due("-3 ahead of it", x.lay(9, true), -3);
        S.due("40 still", x.count(4), 40);
        S.due("no SHEET 40", x.sheet(40, 0), -2);
        PaperWay y = Due.way("roller 10 speed 5;");
        for (int i = 0; i < 40; i++) {
            y.lay(10, false);
            y.tick(300);
            y.clear(false);
        }
        S.due("all TAKEN", y.sheet(39, 0), 4);
        S.due("-4 though the way is free", y.lay(10, false), -4);
        S.due("-4 ahead of -5", y.lay(10, true), -4);
    }

    private static void layNotNow() {
        S.promise(7, "-5: it is to be TURNED and there is no turn, there is no ROLLER, one is JAMMED,"
                + " or it would lie over one under way");
        PaperWay x = Due.way("roller 10 speed 5;");
        S.due("no turn", x.lay(10, true), -5);
        S.due("not to be TURNED", x.lay(10, false), 0);
        S.due("no ROLLER", new PaperWay().lay(10, false), -5);
        PaperWay y = Due.way("way 60;roller 10 speed 9;roller 15 speed 9;roller 22 speed 1;turn 50 back 5 hold 1 rest 1;");
        S.due("a turn", y.lay(10, true), 0);
        S.due("over one under way", y.lay(10, true), -5);
        S.due("over one under way", y.lay(10, false), -5);
        y.tick(1);
        S.due("by a step still", y.sheet(0, 2), 90);
        S.due("over it", y.lay(10, false), -5);
        y.tick(1);
        S.due("beyond", y.sheet(0, 2), 180);
        S.due("free", y.lay(10, false), 1);
        S.due("refused ones have no number", y.count(4), 2);
        y.corner(17, true);
        S.due("a JAM", y.tick(300) < 300, true);
        S.due("JAMMED", y.count(6) >= 0, true);
        S.due("behind a JAM", y.lay(10, false), -5);
        y.clear(false);
        S.due("cleared", y.lay(10, false), 2);
        // JAMMED far from ROLLER 0: not over it, and yet refused
        PaperWay z = Due.way("roller 10 speed 9;roller 18 speed 9;");
        z.lay(10, false);
        z.tick(300);
        S.due("TAIL", z.sheet(0, 2) >= 100, true);
        S.due("JAMMED", z.count(6), 0);
        S.due("one is JAMMED", z.lay(10, false), -5);
    }

    private static void tick() {
        S.promise(8, "So many TICKS (0 to 300), none behind a JAM: how many there were");
        PaperWay x = Due.way("roller 10 speed 5;");
        S.due("0", x.tick(0), 0);
        S.due("NOW", x.count(3), 0);
        S.due("1", x.tick(1), 1);
        S.due("299", x.tick(299), 299);
        S.due("300", x.tick(300), 300);
        S.due("NOW", x.count(3), 600);
        x.lay(10, false);
        S.due("2 on, 5 stood", x.tick(300), 7);
        S.due("NOW", x.count(3), 607);
        S.due("none behind a JAM", x.tick(1), 0);
        S.due("NOW", x.count(3), 607);
        PaperWay y = Due.way("roller 10 speed 5;");
        y.lay(10, false);
        S.due("just to the JAM", y.tick(7), 7);
        S.due("JAMMED", y.count(6), 0);
        S.due("none", y.tick(300), 0);
        y.clear(false);
        S.due("on again", y.tick(2), 2);
        S.due("without ROLLERS", new PaperWay().tick(300), 300);
        S.promise(8, "-3: the number");
        for (int n : new int[] {-1, 301, LEAST, MOST}) {
            S.due("tick " + n, x.tick(n), -3);
            S.due("tick " + n, y.tick(n), -3);
        }
        S.due("NOW", y.count(3), 9);
    }

    private static void sheet() {
        S.promise(9, "Of a SHEET what 0: 0 under way, 1 in the POCKET, 2 OUT, 3 JAMMED, 4 TAKEN");
        PaperWay x = Due.way(SHORT + "turn 12 back 5 hold 1 rest 20;");
        x.lay(10, true);
        S.due("under way", x.sheet(0, 0), 0);
        x.tick(3);
        S.due("in the POCKET", x.sheet(0, 0), 1);
        x.lay(10, false);
        S.due("to the JAM", x.tick(300), 9);
        S.due("JAMMED", x.sheet(1, 0), 3);
        S.due("in the POCKET still", x.sheet(0, 0), 1);
        x.clear(false);
        S.due("TAKEN", x.sheet(0, 0) * 10 + x.sheet(1, 0), 44);
        PaperWay y = Due.way("way 40;roller 30 speed 9;roller 39 speed 9;");
        y.lay(10, false);
        y.tick(3);
        S.due("OUT", y.sheet(0, 0), 2);
        S.promise(9, "1: HEAD, 2: TAIL (where it was latest), 3: side, 4: STOOD");
        S.due("HEAD OUT", y.sheet(0, 1), 570);
        S.due("TAIL OUT", y.sheet(0, 2), 470);
        y.tick(9);
        S.due("HEAD stays there", y.sheet(0, 1), 570);
        S.due("HEAD of one TAKEN", x.sheet(1, 1), 300);
        S.due("TAIL of one TAKEN", x.sheet(1, 2), 200);
        S.due("HEAD where it went into the POCKET", x.sheet(0, 1) * 10 + x.sheet(0, 3), 2501);
        S.due("side, STOOD", x.sheet(1, 3) * 10 + x.sheet(1, 4), 15);
        S.promise(9, "-2: none such (what, too)");
        for (int v : new int[] {-1, 2, 39, 40, LEAST, MOST}) {
            S.due("SHEET " + v, x.sheet(v, 0), -2);
        }
        for (int v : new int[] {-1, 5, LEAST, MOST}) {
            S.due("what " + v, x.sheet(0, v), -2);
        }
        S.due("no SHEET at all", new PaperWay().sheet(0, 0), -2);
    }

    private static void clear() {
        S.promise(10, "-5: none is JAMMED");
        PaperWay x = Due.way(SHORT + "roller 30 speed 5;roller 40 speed 5;eye 22;turn 12 back 2 hold 1 rest 20;");
        S.due("no SHEETS", x.clear(false), -5);
        layEach(x, 1, 10, true, 3);
        S.due("one in the POCKET", x.clear(true), -5);
        // under way, where none is JAMMED
        layEach(x, 1, 10, false, 3);
        S.due("one under way", x.clear(true), -5);
        S.due("no CORNER for it", x.count(7), 0);
        S.due("it stays under way", x.sheet(1, 0), 0);
        S.promise(10, "CLEARED: how many were TAKEN");
        layEach(x, 1, 10, false, 1);
        S.due("TICKS to the JAM", x.tick(300), 9);
        S.due("the second has the greatest HEAD", x.count(6), 1);
        S.due("the POCKET has one", x.count(5), 1);
        S.due("three", x.clear(false), 3);
        S.terms(2, "CLEARED: all SHEETS under way, in the POCKET and JAMMED are TAKEN");
        S.due("each", x.sheet(0, 0) * 100 + x.sheet(1, 0) * 10 + x.sheet(2, 0), 444);
        S.due("none in the POCKET", x.count(5), 0);
        S.due("none JAMMED", x.count(6), -1);
        S.due("no CORNER asked for", x.count(7), 0);
        S.due("SHEETS keep their numbers", x.count(4), 3);
        S.due("NOW stays", x.count(3), 16);
        S.due("none JAMMED any more", x.clear(true), -5);
        S.due("TICKS again", x.tick(300), 300);
        S.due("none comes back", x.sheet(0, 0), 4);
        S.due("the way is free", x.lay(60, false), 3);
        // OUT ones stay OUT
        PaperWay y = Due.way("way 40;roller 30 speed 9;roller 39 speed 9;");
        layEach(y, 1, 10, false, 3);
        y.corner(31, true);
        y.lay(10, false);
        y.tick(300);
        S.due("one", y.clear(false), 1);
        S.due("OUT", y.sheet(0, 0), 2);
    }

    private static void cornerLeft() {
        S.terms(2, "perhaps with a CORNER left where the JAMMED one's HEAD was (its place by 10, cut; 1 at least,"
                + " LENGTH at most)");
        PaperWay x = Due.way("roller 10 speed 9;");
        x.set(0, 0, 511);
        x.lay(10, false);
        // 90 * 489 / 1000 is 44: HEAD 144, 188, 232
        x.tick(300);
        S.due("HEAD", x.sheet(0, 1), 232);
        S.due("cleared", x.clear(true), 1);
        S.due("one CORNER", x.count(7), 1);
        S.due("at 23", x.corner(23, false), true);
        PaperWay y = Due.way("way 40;roller 39 speed 2;");
        y.lay(10, false);
        y.tick(300);
        S.due("HEAD beyond LENGTH", y.sheet(0, 1), 490);
        y.clear(true);
        S.due("at LENGTH", y.corner(40, false), true);
        PaperWay z = Due.way("roller 1 speed 5;");
        z.set(0, 0, 1000);
        z.lay(10, false);
        z.tick(300);
        z.clear(true);
        S.due("at 1", z.corner(1, false), true);
        S.terms(2, "CORNERS: at most 3 places");
        z.corner(2, true);
        z.corner(3, true);
        z.corner(4, true);
        z.lay(10, false);
        z.tick(300);
        S.due("cleared", z.clear(true), 1);
        S.due("three still", z.count(7), 3);
        S.due("not there", z.corner(1, false), false);
        z.corner(4, false);
        z.corner(1, true);
        z.lay(10, false);
        z.tick(300);
        z.clear(true);
        S.due("there already", z.count(7), 3);
    }

    private static void sees() {
        S.promise(11, "Whether an EYE SEES now: 1, 0");
        PaperWay x = Due.way("roller 10 speed 5;roller 20 speed 5;eye 12;eye 90;");
        x.lay(20, false);
        x.tick(1);
        S.due("sees", x.sees(0), 1);
        S.due("doesn't", x.sees(1), 0);
        S.promise(11, "-2: none such");
        for (int e : new int[] {-1, 2, 19, LEAST, MOST}) {
            S.due("EYE " + e, x.sees(e), -2);
        }
        S.promise(11, "(As behind the latest TICK; 0 ahead of any, and behind clear().)");
        PaperWay y = Due.way("roller 10 speed 5;eye 8;");
        y.lay(10, false);
        S.due("ahead of any", y.sees(0), 0);
        y.tick(0);
        S.due("no TICK", y.sees(0), 0);
        y.tick(1);
        S.due("TAIL 50", y.sees(0), 1);
        y.tick(1);
        S.due("TAIL 100", y.sees(0), 0);
        S.due("laid", y.lay(10, false), 1);
        S.due("not yet", y.sees(0), 0);
        y.tick(1);
        S.due("now", y.sees(0), 1);
        y.corner(15, true);
        y.tick(300);
        S.due("the first is JAMMED", y.count(6), 0);
        S.due("the other is seen", y.sees(0), 1);
        y.clear(false);
        S.due("behind clear()", y.sees(0), 0);
        y.tick(1);
        S.due("nothing there", y.sees(0), 0);
    }

    private static void passing() {
        S.promise(12, "The i-th PASSING of an EYE, what 0: from which TICK on it SAW, 1: from which on not any more"
                + " (NONE: not yet)");
        PaperWay x = Due.way("roller 10 speed 5;roller 15 speed 5;roller 20 speed 5;roller 30 speed 5;eye 12;eye 14;");
        x.lay(10, false);
        S.due("none yet", x.passing(0, 0, 0), -2);
        x.tick(1);
        S.due("from", x.passing(0, 0, 0), 1);
        S.due("not yet", x.passing(0, 0, 1), -1);
        x.tick(1);
        S.due("not yet", x.passing(0, 0, 1), -1);
        x.tick(1);
        S.due("TAIL 150", x.passing(0, 0, 1), 3);
        S.due("the other EYE", x.passing(1, 0, 0) * 10 + x.passing(1, 0, 1), 13);
        x.lay(10, false);
        x.tick(3);
        S.due("a second", x.passing(0, 1, 0) * 10 + x.passing(0, 1, 1), 46);
        S.due("the first stays", x.passing(0, 0, 0) * 10 + x.passing(0, 0, 1), 13);
        S.promise(12, "-2: none such (what, too)");
        for (int v : new int[] {-1, 2, 19, LEAST, MOST}) {
            S.due("EYE " + v, x.passing(v, 0, 0), -2);
            S.due("PASSING " + v, x.passing(0, v, 0), -2);
            S.due("what " + v, x.passing(0, 0, v), -2);
        }
        S.terms(2, "(one that clear() cuts off has none)");
        PaperWay y = Due.way("roller 10 speed 5;eye 12;");
        y.lay(20, false);
        y.corner(15, true);
        y.tick(300);
        S.due("from", y.passing(0, 0, 0), 1);
        y.clear(false);
        S.due("cut off", y.passing(0, 0, 1), -1);
        y.tick(3);
        S.due("cut off still", y.passing(0, 0, 1), -1);
        y.lay(20, false);
        y.tick(1);
        S.due("another one", y.passing(0, 1, 0), 10);
        S.due("cut off still", y.passing(0, 0, 1), -1);
    }

    private static void places() {
        S.terms(2, "Places of SHEETS are tenths of a step: HEAD, TAIL (10 times the length less)");
        PaperWay x = Due.way("roller 50 speed 5;");
        x.lay(37, false);
        S.due("HEAD", x.sheet(0, 1), 500);
        S.due("TAIL", x.sheet(0, 2), 130);
        PaperWay y = Due.way("roller 1 speed 5;");
        y.lay(60, false);
        S.due("a TAIL below 0", y.sheet(0, 2), -590);
        S.terms(2, "A SHEET is laid with its HEAD at ROLLER 0, side 1");
        PaperWay z = Due.way("eye 3;roller 7 speed 5;roller 9 speed 5;");
        z.lay(10, false);
        is("laid", z, 0, 0, 70, 1, 0);
    }

    private static void lying() {
        S.terms(2, "LYING are two SHEETS over one another, if the HEAD of each is above the TAIL of the other one");
        // by 1 a tick: TAIL 99 in tick 99, 100 in tick 100
        PaperWay x = Due.way("roller 10 speed 1;roller 11 speed 1;");
        x.set(0, 0, 900);
        x.set(1, 0, 900);
        x.lay(10, false);
        x.tick(99);
        S.due("TAIL", x.sheet(0, 2), 99);
        S.due("HEAD 100 is above it", x.lay(10, false), -5);
        x.tick(1);
        S.due("HEAD 100 isn't above TAIL 100", x.lay(60, false), 1);
        // one that came back, HEAD at 20, behind ROLLER 0
        String way = "roller 14 speed 9;roller 20 speed 9;roller 25 speed 9;turn 15 back 3 hold 1 rest 1;";
        int[] length = {10, 11, 12};
        int[] answer = {1, 1, -5};
        for (int i = 0; i < 3; i++) {
            PaperWay y = Due.way(way);
            layEach(y, 1, 10, true, 3);
            is("came back", y, 0, 0, 30, 2, 0);
            S.due("TAIL at " + (140 - 10 * length[i]) + ", the other's HEAD at 30", y.lay(length[i], false), answer[i]);
        }
    }

    private static void rollersUnder() {
        S.terms(2, "what ROLLERS under it (10 times their place above TAIL, not above HEAD) give");
        PaperWay x = Due.way("roller 10 speed 5;");
        x.set(0, 0, 340);
        x.lay(10, false);
        // 50 * 660 / 1000 is 33
        x.tick(3);
        S.due("TAIL", x.sheet(0, 2), 99);
        x.tick(1);
        S.due("100 is above TAIL 99", x.sheet(0, 1), 232);
        x.tick(1);
        S.due("and not above TAIL 132", x.sheet(0, 1), 232);
        PaperWay y = Due.way("roller 10 speed 5;");
        y.lay(10, false);
        y.tick(3);
        S.due("nor above TAIL 100", y.sheet(0, 1), 200);
        PaperWay z = Due.way("roller 10 speed 5;roller 15 speed 9;");
        z.lay(30, false);
        z.tick(2);
        S.due("150 isn't above HEAD 150", z.sheet(0, 1), 240);
        PaperWay v = Due.way("roller 10 speed 5;roller 16 speed 9;");
        v.lay(30, false);
        v.tick(2);
        S.due("160 is above HEAD 150", v.sheet(0, 1), 200);
        v.tick(1);
        S.due("and not above HEAD 200", v.sheet(0, 1), 290);
    }

    private static void driveGives() {
        S.terms(2, "DRIVE of a SHEET in TICK t: the greatest of what ROLLERS under it");
        PaperWay x = Due.way("roller 10 speed 2;roller 12 speed 9;roller 14 speed 4;");
        x.lay(30, false);
        int[] heads = {120, 210, 300, 390};
        for (int head : heads) {
            x.tick(1);
            S.due("HEAD", x.sheet(0, 1), head);
        }
        PaperWay y = Due.way("roller 10 speed 9;roller 12 speed 1;");
        y.lay(30, false);
        y.tick(3);
        S.due("be it the first", y.sheet(0, 1), 370);
        S.terms(2, "give: 10 times speed times (1000 less WEAR and damp together, 0 at least) by 1000, cut");
        int[][] due = {{1, 0, 0, 10}, {9, 0, 0, 90}, {7, 0, 1, 69}, {7, 333, 1, 46}, {5, 20, 0, 49}, {5, 19, 1, 49},
            {5, 980, 0, 1}, {5, 981, 0, 0}, {9, 989, 0, 0}, {9, 988, 0, 1}, {9, 899, 90, 0}, {9, 898, 90, 1},
            {9, 910, 90, 0}, {9, 1000, 0, 0}, {9, 1000, 90, 0}, {1, 900, 0, 1}, {1, 901, 0, 0}};
        for (int[] d : due) {
            PaperWay z = Due.way("roller 10 speed " + d[0] + ";damp " + d[2] + ";");
            z.set(0, 0, d[1]);
            z.lay(30, false);
            z.tick(1);
            S.due("speed " + d[0] + " WEAR " + d[1] + " damp " + d[2], z.sheet(0, 1), 100 + d[3]);
        }
    }

    private static void beats() {
        S.terms(2, "0 where t is a multiple of BEAT");
        PaperWay x = Due.way("roller 10 speed 5;");
        x.set(0, 1, 3);
        x.lay(60, false);
        int[] heads = {150, 200, 200, 250, 300, 300, 350};
        for (int head : heads) {
            x.tick(1);
            S.due("BEAT 3", x.sheet(0, 1), head);
        }
        PaperWay y = Due.way("roller 10 speed 5;");
        y.set(0, 1, 20);
        y.tick(19);
        y.lay(60, false);
        y.tick(1);
        S.due("t is NOW, not the SHEET's own: 20", y.sheet(0, 1), 100);
        y.tick(1);
        S.due("21", y.sheet(0, 1), 150);
        PaperWay z = Due.way("roller 10 speed 5;roller 11 speed 1;");
        z.set(0, 1, 2);
        z.lay(60, false);
        z.tick(2);
        S.due("the other ROLLER gives still", z.sheet(0, 1), 160);
        S.terms(2, "A TICK: NOW is one more");
        S.due("NOW", z.count(3), 2);
    }

    private static void order() {
        S.terms(2, "(a) SHEETS under way, from the greatest HEAD down, go on by DRIVE");
        PaperWay x = Due.way("roller 10 speed 5;roller 15 speed 5;roller 20 speed 5;roller 25 speed 5;roller 30 speed 5;");
        layEach(x, 1, 10, false, 2);
        S.due("end to end", x.lay(10, false), 1);
        x.tick(1);
        S.due("the first went on", x.sheet(0, 1), 250);
        S.due("then the second, into its room", x.sheet(1, 1), 150);
        S.due("none STOOD", x.sheet(1, 4), 0);
        // ahead of one that came back, and in between two
        PaperWay z = Due.way("roller 14 speed 9;roller 20 speed 9;roller 25 speed 9;roller 33 speed 9;"
                + "turn 15 back 3 hold 1 rest 1;");
        layEach(z, 1, 10, true, 3);
        is("0 is back", z, 0, 0, 30, 2, 0);
        S.due("1 is laid ahead of it", z.lay(10, false), 1);
        z.tick(1);
        is("1 goes on", z, 1, 0, 230, 1, 0);
        is("0 has no ROLLER", z, 0, 0, 30, 2, 1);
        z.tick(1);
        is("1 goes on", z, 1, 0, 320, 1, 0);
        S.due("2 is laid between them", z.lay(10, false), 2);
        z.tick(1);
        is("1 goes on", z, 1, 0, 410, 1, 0);
        is("2 goes on behind it", z, 2, 0, 230, 1, 0);
        z.tick(1);
        is("1 goes no more", z, 1, 0, 410 + 90, 1, 0);
        // by HEADS, not by numbers: 0 comes back right behind 1
        PaperWay y = Due.way("roller 10 speed 5;roller 15 speed 5;roller 20 speed 5;roller 25 speed 5;roller 30 speed 5;"
                + "turn 12 back 10 hold 1 rest 2;");
        layEach(y, 1, 10, true, 3);
        S.due("laid", y.lay(10, false), 1);
        y.tick(2);
        is("1 is ahead", y, 1, 0, 200, 1, 0);
        is("0 is right behind", y, 0, 0, 100, 2, 0);
        y.tick(1);
        is("1 first", y, 1, 0, 250, 1, 0);
        is("0 then", y, 0, 0, 150, 2, 0);
    }

    /** 0 came back in TICK 13 between 1 ahead of it and 2 behind it, each under a ROLLER. */
    private static PaperWay backBetween() {
        PaperWay x = Due.way("roller 5 speed 5;roller 14 speed 5;roller 23 speed 5;roller 32 speed 5;roller 41 speed 5;"
                + "roller 50 speed 5;roller 59 speed 5;roller 68 speed 5;roller 77 speed 5;turn 40 back 39 hold 1 rest 4;");
        layEach(x, 1, 10, true, 2);
        S.due("1 is laid", x.lay(10, false), 1);
        x.tick(7);
        is("0 is in", x, 0, 1, 500, 1, 0);
        S.due("2 is laid", x.lay(10, false), 2);
        x.tick(4);
        is("1 is ahead", x, 1, 0, 600, 1, 0);
        is("0 is back", x, 0, 0, 390, 2, 0);
        is("2 is behind", x, 2, 0, 250, 1, 0);
        return x;
    }

    private static void backBetweenTwo() {
        S.terms(2, "(a) SHEETS under way, from the greatest HEAD down, go on by DRIVE");
        PaperWay x = backBetween();
        x.tick(1);
        is("1 goes on", x, 1, 0, 650, 1, 0);
        is("0 goes on", x, 0, 0, 440, 2, 0);
        is("2 goes on", x, 2, 0, 300, 1, 0);
        S.terms(2, "nor beyond the TAIL of the one with the next greater HEAD (as it is now;");
        x.corner(44, true);
        x.tick(1);
        is("1 goes on", x, 1, 0, 700, 1, 0);
        is("0 is held", x, 0, 0, 440, 2, 1);
        is("2 to the TAIL of 0, not of 1", x, 2, 0, 340, 1, 0);
        S.terms(2, "(b) If one has STOOD 5 TICKS, the one of these with the greatest HEAD is JAMMED: no TICKS any more");
        S.due("0 STOOD 5, 2 a TICK less", x.tick(300), 4);
        is("0", x, 0, 3, 440, 2, 5);
        is("2", x, 2, 0, 340, 1, 4);
        PaperWay y = backBetween();
        y.corner(44, true);
        y.corner(30, true);
        S.due("0 and 2 stand at once", y.tick(300), 6);
        is("0 of the greater HEAD", y, 0, 3, 440, 2, 5);
        is("not 2", y, 2, 0, 300, 1, 5);
        PaperWay z = backBetween();
        z.corner(44, true);
        z.corner(65, true);
        z.corner(30, true);
        S.due("all three stand at once", z.tick(300), 6);
        is("1 of the greatest HEAD", z, 1, 3, 650, 1, 5);
        is("not 0, of the least number", z, 0, 0, 440, 2, 5);
        S.due("all three", z.clear(false), 3);
    }

    private static void cornersHold() {
        S.terms(2, "but not beyond the least CORNER (10 times its place) that isn't below HEAD");
        PaperWay x = Due.way("roller 10 speed 5;");
        x.corner(14, true);
        x.corner(12, true);
        x.corner(9, true);
        x.lay(60, false);
        x.tick(1);
        is("the least of two", x, 0, 0, 120, 1, 0);
        x.tick(1);
        is("one at HEAD isn't below it", x, 0, 0, 120, 1, 1);
        x.corner(12, false);
        x.tick(1);
        is("the next", x, 0, 0, 140, 1, 0);
        x.corner(14, false);
        x.corner(19, true);
        x.tick(1);
        is("just to it", x, 0, 0, 190, 1, 0);
        // a HEAD a tenth above, at, and below a CORNER
        int[] place = {14, 15, 16};
        int[] head = {200, 150, 160};
        for (int i = 0; i < 3; i++) {
            PaperWay y = Due.way("roller 10 speed 5;");
            y.lay(60, false);
            y.tick(1);
            y.corner(place[i], true);
            y.tick(1);
            S.due("a CORNER at " + place[i] + ", HEAD 150", y.sheet(0, 1), head[i]);
        }
        PaperWay z = Due.way("roller 10 speed 7;damp 1;");
        z.lay(60, false);
        z.tick(1);
        z.corner(16, true);
        z.tick(1);
        S.due("a CORNER at 160 is below HEAD 169", z.sheet(0, 1), 238);
        z.corner(24, true);
        z.tick(1);
        S.due("one at 240 isn't below HEAD 238", z.sheet(0, 1), 240);
    }

    private static void tailsHold() {
        S.terms(2, "nor beyond the TAIL of the one with the next greater HEAD (as it is now; where that is below its own"
                + " HEAD: it stays)");
        PaperWay x = Due.way("roller 10 speed 9;roller 15 speed 9;roller 25 speed 1;roller 35 speed 1;");
        layEach(x, 1, 10, false, 2);
        is("the first", x, 0, 0, 280, 1, 0);
        x.lay(10, false);
        x.tick(1);
        is("the first", x, 0, 0, 290, 1, 0);
        is("to its TAIL, as it is now", x, 1, 0, 190, 1, 0);
        x.tick(1);
        is("again", x, 1, 0, 200, 1, 0);
        x.lay(10, false);
        x.tick(2);
        is("the first", x, 0, 0, 320, 1, 0);
        is("the second to the first's TAIL", x, 1, 0, 220, 1, 0);
        is("the third to the second's, not to the first's", x, 2, 0, 120, 1, 0);
        x.corner(32, true);
        x.tick(1);
        is("at its TAIL it stays", x, 1, 0, 220, 1, 1);
        is("and the third", x, 2, 0, 120, 1, 1);
        // one in the POCKET holds none, though its HEAD and TAIL are told as they were
        PaperWay y = Due.way(SHORT + "roller 30 speed 5;roller 40 speed 5;turn 12 back 2 hold 1 rest 20;");
        layEach(y, 1, 10, true, 3);
        S.due("TAIL", y.sheet(0, 0) * 1000 + y.sheet(0, 2), 1150);
        y.lay(20, false);
        y.tick(4);
        is("beyond", y, 1, 0, 300, 1, 0);
        // one that is OUT, too
        PaperWay z = Due.way("way 40;roller 30 speed 9;roller 39 speed 9;");
        layEach(z, 1, 10, false, 3);
        S.due("OUT with its TAIL", z.sheet(0, 0) * 1000 + z.sheet(0, 2), 2470);
        z.lay(10, false);
        z.tick(3);
        is("OUT as well", z, 1, 2, 570, 1, 0);
    }

    private static void waits() {
        S.terms(2, "One that is to be TURNED, on side 1, whose TAIL is at 10 times turn or beyond, WAITS");
        int[] turn = {14, 15, 16};
        int[] ticks = {3, 3, 4};
        for (int i = 0; i < 3; i++) {
            PaperWay x = Due.way(SHORT + "turn " + turn[i] + " back 2 hold 1 rest 20;");
            x.lay(10, true);
            x.tick(ticks[i] - 1);
            S.due("turn " + turn[i] + ", a TICK ahead", x.sheet(0, 0), 0);
            x.tick(1);
            S.due("turn " + turn[i] + ", TAIL " + x.sheet(0, 2), x.sheet(0, 0), 1);
        }
        PaperWay y = Due.way(SHORT + "roller 30 speed 5;turn 15 back 2 hold 1 rest 1;");
        y.lay(10, false);
        y.tick(4);
        is("one that is not to be TURNED goes on", y, 0, 0, 300, 1, 0);
        PaperWay z = Due.way("roller 10 speed 5;roller 15 speed 5;roller 20 speed 5;roller 30 speed 5;"
                + "turn 15 back 14 hold 1 rest 1;");
        z.lay(10, true);
        z.tick(4);
        is("back on side 2", z, 0, 0, 140, 2, 0);
        z.tick(3);
        is("on side 2 it goes by the turn", z, 0, 0, 290, 2, 0);
        PaperWay w = Due.way("roller 40 speed 5;roller 50 speed 5;turn 30 back 14 hold 1 rest 3;");
        w.lay(10, true);
        is("laid with its TAIL at the turn", w, 0, 0, 400, 1, 0);
        w.tick(1);
        is("it isn't driven ahead of the POCKET", w, 0, 1, 400, 1, 0);
        w.tick(2);
        S.due("came in TICK 1: in TICK 3 not yet", w.sheet(0, 0), 1);
        w.tick(1);
        is("back in TICK 4", w, 0, 0, 140, 2, 0);
        S.terms(2, "it goes into the POCKET if fewer than hold lie in it, else it isn't driven (so, too, right behind"
                + " going on)");
        PaperWay v = Due.way(SHORT + "turn 15 back 2 hold 1 rest 20;");
        layEach(v, 1, 10, true, 3);
        is("right behind going on", v, 0, 1, 250, 1, 0);
        layEach(v, 1, 10, true, 3);
        is("it is full", v, 1, 0, 250, 1, 0);
        v.tick(9);
        is("not driven, though a ROLLER is under it", v, 1, 0, 250, 1, 0);
        v.tick(8);
        is("the first is back in TICK 23", v, 0, 0, 20, 2, 0);
        is("the second waits still", v, 1, 0, 250, 1, 0);
        v.tick(1);
        is("it goes in, not driven", v, 1, 1, 250, 1, 0);
    }

    private static void holds() {
        S.terms(2, "it goes into the POCKET if fewer than hold lie in it");
        for (int hold = 1; hold <= 3; hold++) {
            PaperWay x = Due.way(SHORT + "turn 12 back 2 hold " + hold + " rest 20;");
            layEach(x, hold + 1, 10, true, 3);
            S.due("hold " + hold, x.count(5), hold);
            S.due("the last in", x.sheet(hold - 1, 0), 1);
            S.due("one more waits", x.sheet(hold, 0), 0);
            x.tick(23 - x.count(3));
            S.due("one came back", x.count(5), hold - 1);
            x.tick(1);
            S.due("one more went in", x.count(5) * 10 + x.sheet(hold, 0), hold * 10 + 1);
        }
    }

    private static void outAtTheEnd() {
        S.terms(2, "One whose TAIL is at 10 times LENGTH or beyond is OUT");
        // HEAD 390, 480, then by the last ROLLER: 20, 19 and 30 a tick
        int[] speed = {2, 2, 3};
        int[] wear = {0, 50, 0};
        int[] state = {2, 0, 2};
        int[] tail = {400, 399, 410};
        for (int i = 0; i < 3; i++) {
            PaperWay x = Due.way("way 40;roller 30 speed 9;roller 39 speed " + speed[i] + ";");
            x.set(1, 0, wear[i]);
            x.lay(10, false);
            x.tick(2);
            S.due("under way", x.sheet(0, 0) * 1000 + x.sheet(0, 2), 380);
            x.tick(1);
            S.due("TAIL", x.sheet(0, 2), tail[i]);
            S.due("state with TAIL " + tail[i], x.sheet(0, 0), state[i]);
            S.due("never JAMMED, if OUT", x.tick(9), state[i] == 2 ? 9 : 5);
        }
    }

    private static void stood() {
        S.terms(2, "STOOD counts TICKS in a row in which one neither goes on nor WAITS");
        PaperWay x = Due.way("roller 10 speed 5;");
        x.lay(60, false);
        x.tick(1);
        S.due("going on", x.sheet(0, 4), 0);
        x.corner(15, true);
        for (int i = 1; i <= 4; i++) {
            x.tick(1);
            S.due("held", x.sheet(0, 4), i);
        }
        x.corner(15, false);
        x.tick(1);
        S.due("by one going on it is 0", x.sheet(0, 4), 0);
        x.corner(20, true);
        x.tick(1);
        S.due("in a row", x.sheet(0, 4), 1);
        x.corner(20, false);
        x.set(0, 0, 980);
        x.tick(1);
        S.due("going on by a tenth", x.sheet(0, 1) * 10 + x.sheet(0, 4), 2010);
        PaperWay y = Due.way(SHORT + "turn 12 back 2 hold 1 rest 20;");
        layEach(y, 1, 10, true, 3);
        layEach(y, 1, 10, true, 3);
        y.tick(10);
        S.due("one that WAITS has STOOD 0", y.sheet(1, 4), 0);
    }

    private static void jammed() {
        S.terms(2, "(b) If one has STOOD 5 TICKS, the one of these with the greatest HEAD is JAMMED: no TICKS any more");
        PaperWay x = Due.way("roller 10 speed 5;");
        x.set(0, 0, 1000);
        x.lay(20, false);
        x.tick(4);
        is("4", x, 0, 0, 100, 1, 4);
        S.due("none JAMMED", x.count(6), -1);
        S.due("one TICK more, no more", x.tick(2), 1);
        is("5", x, 0, 3, 100, 1, 5);
        S.due("JAMMED", x.count(6), 0);
        PaperWay y = Due.way("roller 10 speed 5;roller 30 speed 5;");
        layEach(y, 1, 10, false, 2);
        y.lay(10, false);
        y.set(0, 0, 1000);
        S.due("both stand", y.tick(300), 5);
        is("the greatest HEAD", y, 0, 3, 200, 1, 5);
        is("the other is under way", y, 1, 0, 100, 1, 5);
        // of those that STOOD 5: one that goes on ahead of it isn't
        PaperWay z = Due.way("roller 10 speed 9;roller 25 speed 1;roller 35 speed 1;roller 44 speed 1;");
        layEach(z, 1, 10, false, 2);
        z.lay(10, false);
        z.corner(11, true);
        S.due("the second stands from its second TICK on", z.tick(300), 6);
        S.due("the second is JAMMED", z.count(6), 1);
        is("the first is under way", z, 0, 0, 340, 1, 0);
        // by HEAD, not by number
        PaperWay v = Due.way(SHORT + "turn 12 back 2 hold 1 rest 1;");
        layEach(v, 1, 10, true, 4);
        is("0 is back", v, 0, 0, 20, 2, 0);
        v.set(0, 0, 1000);
        v.corner(11, true);
        v.tick(3);
        v.corner(11, false);
        S.due("over 0 it can't lie", v.lay(10, false), -5);
        S.due("0 is JAMMED alone", v.tick(300) * 10 + v.count(6), 20);
    }

    private static void comesBack() {
        S.terms(2, "(c) The SHEET longest in the POCKET, if it came rest TICKS ago or earlier, comes back: HEAD 10 times"
                + " back, side 2, STOOD 0");
        for (int rest : new int[] {1, 2, 19, 20}) {
            PaperWay x = Due.way(SHORT + "turn 12 back 3 hold 1 rest " + rest + ";");
            layEach(x, 1, 10, true, 3);
            is("in", x, 0, 1, 250, 1, 0);
            x.tick(rest - 1);
            is("rest " + rest + ", a TICK ahead", x, 0, 1, 250, 1, 0);
            x.tick(1);
            is("rest " + rest, x, 0, 0, 30, 2, 0);
            S.due("TAIL", x.sheet(0, 2), -70);
            S.due("the POCKET is empty", x.count(5), 0);
            x.tick(1);
            is("under way, where no ROLLER is", x, 0, 0, 30, 2, 1);
        }
        PaperWay y = Due.way(SHORT + "turn 20 back 19 hold 1 rest 1;");
        y.lay(10, true);
        y.tick(5);
        is("at the turn less 1", y, 0, 0, 190, 2, 0);
        y.tick(1);
        is("driven from there on", y, 0, 0, 240, 2, 0);
    }

    private static void comesBackFree() {
        S.terms(2, "comes back: HEAD 10 times back, side 2, STOOD 0, if it lies over none that is under way or JAMMED");
        // 0 goes in in TICK 3; 1 of 19 steps is laid then, its TAIL at -90, -40, 10, 60, 110
        String way = SHORT + "roller 29 speed 5;turn 12 back 11 hold 1 rest 1;";
        PaperWay x = Due.way(way);
        layEach(x, 1, 10, true, 3);
        x.lay(19, false);
        x.tick(3);
        S.due("TAIL 60 is below HEAD 110", x.sheet(1, 2) * 10 + x.sheet(0, 0), 601);
        x.tick(1);
        is("TAIL 110: it comes in that TICK", x, 0, 0, 110, 2, 0);
        S.due("TAIL", x.sheet(1, 2), 110);
        // by a tenth: 33 a tick, TAIL 99 (33 times 3) and 132 with back 10
        PaperWay y = Due.way("roller 10 speed 5;roller 15 speed 5;roller 19 speed 5;turn 12 back 10 hold 1 rest 1;");
        layEach(y, 1, 10, true, 3);
        y.set(0, 0, 340);
        y.set(1, 0, 340);
        y.set(2, 0, 340);
        y.lay(10, false);
        y.tick(3);
        S.due("TAIL 99 is below HEAD 100", y.sheet(1, 2) * 10 + y.sheet(0, 0), 991);
        y.tick(1);
        S.due("TAIL 132", y.sheet(1, 2) * 10 + y.sheet(0, 0), 1320);
        // behind it: HEAD of one that came back is at the TAIL of the next, or above it
        for (int back = 12; back <= 13; back++) {
            PaperWay z = Due.way(SHORT + "turn 14 back " + back + " hold 2 rest 4;");
            layEach(z, 2, 10, true, 3);
            S.due("two in", z.count(5), 2);
            z.tick(1);
            is("the first came back in TICK 7", z, 0, 0, 10 * back, 2, 0);
            z.corner(22, true);
            z.tick(3);
            S.due("TICK 10: HEAD", z.sheet(0, 1), 220);
            S.due("TAIL 120 and back " + back, z.sheet(1, 0), back == 12 ? 0 : 1);
        }
        // over one JAMMED it doesn't come either, in the TICK of the JAM
        PaperWay v = Due.way(SHORT + "turn 12 back 11 hold 1 rest 9;");
        layEach(v, 1, 10, true, 3);
        v.corner(14, true);
        v.lay(10, false);
        S.due("HEAD 140 from TICK 4 on", v.tick(300), 6);
        S.due("the JAM is in TICK 9", v.count(3) * 10 + v.count(6), 91);
        S.due("0 would come in TICK 12", v.sheet(0, 0), 1);
        for (int length = 10; length <= 40; length += 30) {
            PaperWay w = Due.way("roller 20 speed 5;roller 25 speed 5;roller 30 speed 5;turn 22 back 10 hold 1 rest 6;");
            layEach(w, 1, 10, true, 3);
            w.corner(21, true);
            w.lay(length, false);
            S.due("a JAM in TICK 9", w.tick(300) * 10 + w.count(6), 61);
            S.due("rest is over in that TICK, HEAD 100, TAIL " + w.sheet(1, 2), w.sheet(0, 0), length == 10 ? 0 : 1);
        }
    }

    private static void longestFirst() {
        S.terms(2, "The SHEET longest in the POCKET");
        PaperWay x = Due.way(SHORT + "turn 12 back 9 hold 3 rest 9;");
        layEach(x, 3, 10, true, 3);
        S.due("three in", x.count(5), 3);
        x.tick(3);
        is("the first in TICK 12", x, 0, 0, 90, 2, 0);
        S.due("the others not", x.sheet(1, 0) * 10 + x.sheet(2, 0), 11);
        // one a TICK, and a shorter one doesn't overtake the one that can't come yet
        PaperWay y = Due.way("roller 10 speed 5;roller 15 speed 5;roller 20 speed 5;roller 25 speed 5;roller 30 speed 5;"
                + "turn 16 back 15 hold 2 rest 1;");
        y.lay(15, true);
        y.tick(4);
        S.due("TAIL 150 is ahead of the turn", y.sheet(0, 2) * 10 + y.sheet(0, 0), 1500);
        y.tick(1);
        is("in", y, 0, 1, 350, 1, 0);
        S.due("laid", y.lay(10, false), 1);
        y.tick(1);
        S.due("HEAD 150, TAIL 50: blocked", y.sheet(0, 0), 1);
        y.tick(1);
        S.due("HEAD 200, TAIL 100: blocked", y.sheet(0, 0), 1);
        y.tick(1);
        is("TAIL 150: free", y, 0, 0, 150, 2, 0);
    }

    private static void eyesSee() {
        S.terms(2, "(d) An EYE SEES, if 10 times its place is above the TAIL, not above the HEAD, of a SHEET under way or"
                + " JAMMED");
        PaperWay x = Due.way("roller 10 speed 1;eye 1;eye 2;eye 11;eye 12;");
        x.lay(10, false);
        x.tick(1);
        int[] sees = {0, 1, 1, 0};
        for (int e = 0; e < 4; e++) {
            S.due("HEAD 110, TAIL 10, EYE " + e, x.sees(e), sees[e]);
        }
        x.set(0, 0, 1000);
        x.tick(300);
        S.due("JAMMED", x.sheet(0, 0), 3);
        for (int e = 0; e < 4; e++) {
            S.due("JAMMED, EYE " + e, x.sees(e), sees[e]);
        }
        PaperWay y = Due.way(SHORT + "eye 16;eye 25;turn 15 back 2 hold 1 rest 20;");
        y.lay(10, true);
        y.tick(2);
        S.due("HEAD 200", y.sees(0) * 10 + y.sees(1), 10);
        y.tick(1);
        S.due("in the POCKET with HEAD 250, TAIL 150", y.sees(0) * 10 + y.sees(1), 0);
        S.due("not any more from TICK 3 on", y.passing(0, 0, 1), 3);
        PaperWay z = Due.way("way 40;roller 30 speed 9;roller 39 speed 9;eye 39;eye 40;");
        z.lay(10, false);
        z.tick(1);
        S.due("HEAD 390", z.sees(0) * 10 + z.sees(1), 10);
        z.tick(1);
        S.due("HEAD 480, TAIL 380", z.sees(0) * 10 + z.sees(1), 11);
        z.tick(1);
        S.due("OUT", z.sees(0) * 10 + z.sees(1), 0);
        // as it comes back, in the same TICK
        PaperWay v = Due.way(SHORT + "eye 2;turn 15 back 2 hold 1 rest 1;");
        v.lay(10, true);
        v.tick(3);
        S.due("TAIL 150", v.sees(0), 0);
        v.tick(1);
        S.due("HEAD 20", v.sees(0), 1);
        S.due("from TICK 4 on", v.passing(0, 0, 0), 4);
    }

    private static void twelvePassings() {
        S.terms(2, "PASSINGS of an EYE, at most 12: from which TICK on it SAW, from which on not any more");
        PaperWay x = Due.way("way 40;roller 20 speed 9;roller 29 speed 9;roller 38 speed 9;eye 25;eye 40;");
        for (int i = 0; i < 14; i++) {
            S.due("lay", x.lay(10, false), i);
            x.tick(3);
            boolean there = i < 12;
            S.due("PASSING " + i + " from", x.passing(0, i, 0), there ? 3 * i + 1 : -2);
            S.due("PASSING " + i + " to", x.passing(0, i, 1), there ? 3 * i + 2 : -2);
            S.due("EYE 1, " + i, x.passing(1, i, 0), there ? 3 * i + 3 : -2);
            S.due("not yet", x.passing(1, i, 1), there ? -1 : -2);
        }
        S.due("it SEES still", x.sees(1), 1);
        for (int i = 0; i < 12; i++) {
            S.due("PASSING " + i + " stays", x.passing(0, i, 0) * 100 + x.passing(0, i, 1), (3 * i + 1) * 100 + 3 * i + 2);
        }
        // the 12th is cut off by clear(), and no later one ends it
        PaperWay y = Due.way("way 40;roller 20 speed 9;roller 29 speed 9;roller 38 speed 9;eye 25;");
        for (int i = 0; i < 11; i++) {
            y.lay(10, false);
            y.tick(3);
        }
        y.corner(29, true);
        y.lay(10, false);
        S.due("it stands from TICK 35 on", y.tick(300), 6);
        S.due("the 12th", y.passing(0, 11, 0) * 10 + y.passing(0, 11, 1), 339);
        y.clear(false);
        y.corner(29, false);
        y.lay(10, false);
        y.tick(1);
        S.due("it SEES a 13th", y.sees(0), 1);
        y.tick(2);
        S.due("not any more", y.sees(0), 0);
        S.due("the 12th stays cut off", y.passing(0, 11, 0) * 10 + y.passing(0, 11, 1), 339);
        S.due("no 13th", y.passing(0, 12, 0), -2);
    }
}
