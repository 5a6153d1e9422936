/** Promises 13 to 17: observed eyes, the causes that explain them, failing rollers, creases. */
public final class CausesTest {
    private static final Due D = new Due("CausesTest");
    /** Undisturbed, a sheet of 20 steps is seen by its eyes from 2 to 6, 6 to 10, 8 to 12. */
    private static final String WAY = "way 50; roller 10 speed 5; roller 30 speed 5; roller 49 speed 5;"
            + "eye 20; eye 40; eye 50;";
    /** The same rollers, and more eyes to tell causes apart. */
    private static final String CLOSE = "way 50; roller 10 speed 5; roller 30 speed 5; roller 49 speed 5;"
            + "eye 21; eye 27; eye 33; eye 40; eye 43; eye 50;";

    public static void main(String[] args) {
        sawAnswers();
        forgetAnswers();
        explainRefusals();
        noCause();
        eachCause();
        pairs();
        leastOfLikeOnes();
        never();
        askedAnew();
        foretoldRefusals();
        foretoldNumbers();
        foretoldIsOnTheWayAsItIs();
        creaseRefusals();
        creases();
        D.end();
    }

    private static void sawAnswers() {
        PaperWay x = Due.way(WAY);
        D.due("no eye", x.saw(3, 1, 2), false);
        D.due("eye -1", x.saw(-1, 1, 2), false);
        D.due("on 0", x.saw(0, 0, 2), false);
        D.due("on 121", x.saw(0, 121, -1), false);
        D.due("on -2", x.saw(0, -2, -1), false);
        D.due("off 121", x.saw(0, 5, 121), false);
        D.due("off 0", x.saw(0, 5, 0), false);
        D.due("off -2", x.saw(0, 5, -2), false);
        D.due("off as on", x.saw(0, 5, 5), false);
        D.due("off ahead of on", x.saw(0, 5, 4), false);
        D.due("off without on", x.saw(0, -1, 4), false);
        D.due("on 120, off 121", x.saw(0, 120, 121), false);
        D.due("refused: nothing is OBSERVED", x.count(8), 0);
        D.due("on 120", x.saw(0, 120, -1), true);
        D.due("on 119, off 120", x.saw(0, 119, 120), true);
        D.due("on 1, off 2", x.saw(0, 1, 2), true);
        D.due("one eye", x.count(8), 1);
        D.due("never", x.saw(2, -1, -1), true);
        D.due("two eyes", x.count(8), 2);
        PaperWay y = new PaperWay();
        D.due("no eyes at all", y.saw(0, 1, 2), false);
    }

    private static void forgetAnswers() {
        PaperWay x = Due.way(WAY);
        D.due("nothing", x.forget(), 0);
        x.saw(0, 1, 2);
        x.saw(0, 2, 3);
        x.saw(1, -1, -1);
        D.due("of two", x.forget(), 2);
        D.due("none now", x.count(8), 0);
        D.due("nothing", x.forget(), 0);
        D.due("nothing OBSERVED wants no causes", x.explain(20, -1), 0);
        x.saw(2, 8, 12);
        D.due("what was forgotten counts no more", x.explain(20, -1), 0);
    }

    private static void explainRefusals() {
        PaperWay x = Due.way(WAY);
        D.due("length 9", x.explain(9, -1), -3);
        D.due("length 61", x.explain(61, 0), -3);
        D.due("k 0 of none", x.explain(20, 0), -1);
        D.due("k -2", x.explain(20, -2), -1);
        D.due("k 2", x.explain(20, 2), -1);
        D.due("-3 ahead of NONE", x.explain(9, 7), -3);
        PaperWay y = new PaperWay();
        D.due("no roller", y.explain(20, -1), -5);
        D.due("no roller, no k", y.explain(20, 9), -5);
        D.due("-3 ahead of -5", y.explain(9, -1), -3);
    }

    private static void tell(PaperWay x, int... times) {
        for (int e = 0; e < times.length / 2; e++) {
            D.due("saw", x.saw(e, times[2 * e], times[2 * e + 1]), true);
        }
    }

    private static void explained(PaperWay x, int length, int... causes) {
        D.due("explain(" + length + ", -1)", x.explain(length, -1), causes.length);
        for (int k = 0; k <= 2; k++) {
            D.due("explain(" + length + ", " + k + ")", x.explain(length, k), k < causes.length ? causes[k] : -1);
        }
    }

    private static void unexplained(PaperWay x, int length) {
        for (int k = -1; k <= 2; k++) {
            D.due("explain(" + length + ", " + k + ")", x.explain(length, k), -1);
        }
    }

    private static void noCause() {
        PaperWay x = Due.way(WAY);
        explained(x, 20);
        tell(x, 2, 6, 6, 10, 8, 12);
        explained(x, 20);
        // WEAR, BEATS, CORNERS of the way itself don't count
        x.set(0, 0, 1000);
        x.set(1, 1, 2);
        x.corner(7, true);
        x.lay(20, false);
        x.tick(3);
        explained(x, 20);
        D.due("nor does asking change them", x.set(0, 0, 0), 1000);
        D.due("one corner", x.count(7), 1);
        D.due("the sheet stays", x.sheet(0, 1), 100);
    }

    /** What the eyes see of a sheet on a way with these flaws, told to a way without. */
    private static PaperWay told(String way, int length, int... wearBeatCorner) {
        PaperWay x = Due.way(way);
        for (int i = 0; i < wearBeatCorner.length; i += 3) {
            if (wearBeatCorner[i] == 2) {
                x.corner(wearBeatCorner[i + 1], true);
            } else {
                x.set(wearBeatCorner[i + 1], wearBeatCorner[i], wearBeatCorner[i + 2]);
            }
        }
        x.lay(length, false);
        x.tick(120);
        PaperWay y = Due.way(way);
        for (int e = 0; e < x.count(1); e++) {
            boolean passed = x.passing(e, 0, 0) >= 0;
            y.saw(e, passed ? x.passing(e, 0, 0) : -1, passed ? x.passing(e, 0, 1) : -1);
        }
        return y;
    }

    private static void eachCause() {
        explained(told(CLOSE, 20, 1, 0, 3), 20, 20);
        explained(told(WAY, 20, 0, 0, 200), 20, 0);
        explained(told(WAY, 20, 0, 1, 200), 20, 1);
        explained(told(WAY, 20, 0, 2, 200), 20, 2);
        explained(told(WAY, 20, 0, 0, 500), 20, 10);
        explained(told(WAY, 20, 0, 1, 500), 20, 11);
        explained(told(WAY, 20, 0, 2, 500), 20, 12);
        explained(told(CLOSE, 20, 1, 1, 3), 20, 21);
        explained(told(CLOSE, 20, 1, 2, 3), 20, 22);
        // a missed beat of the first may look like a worn second: the least number is told
        explained(told(WAY, 20, 1, 0, 3), 20, 1);
        explained(told(WAY, 30), 20, 49);
        explained(told(WAY, 20, 2, 22, 0), 20, 50);
        explained(told(WAY, 20, 2, 42, 0), 20, 51);
        String single = "way 40; roller 30 speed 4; eye 31; eye 33; eye 36; eye 38; eye 40;";
        explained(told(single, 60, 0, 0, 200), 60, 0);
        explained(told(single, 60, 0, 0, 500), 60, 10);
        explained(told(single, 60, 1, 0, 3), 60, 20);
        int[] due = {2, 6, 6, 10, 8, 12};
        for (int e = 0; e < 3; e++) {
            PaperWay x = Due.way(WAY);
            tell(x, due);
            x.saw(e, -1, -1);
            explained(x, 20, 30 + e);
        }
        // a corner 2 steps behind an eye is none beyond LENGTH
        String ends = "way 50; roller 30 speed 1; roller 49 speed 1; eye 39; eye 48;";
        explained(told(ends, 20, 2, 50, 0), 20, 51);
        String beyond = "way 50; roller 30 speed 1; roller 49 speed 1; eye 39; eye 49;";
        PaperWay x = told(beyond, 20, 2, 50, 0);
        unexplained(x, 20);
    }

    private static void pairs() {
        explained(told(WAY, 20, 0, 0, 500, 0, 2, 500), 20, 10, 12);
        explained(told(CLOSE, 20, 0, 1, 200, 1, 0, 3), 20, 1, 20);
        explained(told(CLOSE, 30, 1, 0, 3), 20, 20, 49);
        // the beat of the second falls where others drive
        explained(told(WAY, 30, 1, 1, 3), 20, 49);
        explained(told(WAY, 30, 2, 42, 0), 20, 49, 51);
        PaperWay x = Due.way(WAY);
        tell(x, 2, 6, -1, -1, -1, -1);
        // two blind eyes, or a sheet held: eye 0 would see it for ever, if the corner were behind it
        explained(x, 20, 31, 32);
        PaperWay y = told(WAY, 20, 0, 0, 500);
        y.saw(1, -1, -1);
        explained(y, 20, 10, 31);
        // three flaws are too many
        unexplained(told(WAY, 20, 0, 0, 500, 0, 1, 500, 1, 2, 3), 20);
        PaperWay z = Due.way(WAY);
        tell(z, -1, -1, -1, -1, -1, -1);
        explained(z, 20, 30, 50);
        PaperWay v = Due.way(WAY);
        tell(v, 3, 4, 6, 10, 8, 12);
        unexplained(v, 20);
    }

    private static void leastOfLikeOnes() {
        // one eye alone, seen a tick late: WEAR of a roller, a beat .. the least number is told
        PaperWay x = Due.way(WAY);
        x.saw(1, 7, -1);
        D.due("none sees for ever at 7", x.explain(20, -1), -1 + 3);
        int a = x.explain(20, 0);
        int b = x.explain(20, 1);
        D.due("the least first one", a, 0);
        D.due("then the least second one", b, 51);
        PaperWay y = Due.way(WAY);
        y.saw(0, 3, 7);
        explained(y, 20, 0);
        PaperWay z = Due.way(WAY);
        z.saw(0, 2, 6);
        z.saw(1, -1, -1);
        explained(z, 20, 31);
    }

    private static void never() {
        // a JAM ends it: what was not seen by then is never seen, what is seen goes on
        PaperWay x = Due.way(WAY);
        tell(x, 2, -1, -1, -1, -1, -1);
        explained(x, 20, 50);
        PaperWay y = Due.way(WAY);
        tell(y, 2, -1, -1, -1);
        explained(y, 20, 50);
        // not seen to its end in 120 ticks is for ever, too
        String slow = "way 300; roller 1 speed 1; roller 100 speed 1; roller 200 speed 1; eye 110; eye 130;";
        PaperWay z = Due.way(slow);
        z.saw(0, 109, -1);
        z.saw(1, -1, -1);
        D.due("rollers too far: it jams", z.explain(60, -1), -1);
        String near = "way 300; roller 1 speed 1; roller 50 speed 1; roller 100 speed 1; roller 150 speed 1;"
                + " eye 110; eye 121; eye 122;";
        PaperWay v = Due.way(near);
        v.saw(0, 109, -1);
        v.saw(1, 120, -1);
        v.saw(2, -1, -1);
        explained(v, 60);
        v.saw(1, -1, -1);
        // tick 120 counts: with WEAR of roller 2 the HEAD isn't there by then
        explained(v, 60, 2);
        v.saw(1, 119, -1);
        unexplained(v, 60);
    }

    private static void askedAnew() {
        PaperWay x = Due.way(WAY);
        tell(x, 2, 8, 6, 12, 8, 14);
        explained(x, 20, 49);
        explained(x, 30);
        explained(x, 20, 49);
        x.saw(1, -1, -1);
        explained(x, 20, 31, 49);
        x.forget();
        explained(x, 20);
        Due.text(x, "way 50; roller 10 speed 1; roller 20 speed 5; roller 35 speed 5; eye 15; eye 35;");
        explained(x, 20);
        x.saw(0, 2, 6);
        unexplained(x, 20);
        // 10 a tick to 200, then 50: HEAD 150 in tick 5, TAIL 150 in tick 13
        x.saw(0, 5, 13);
        explained(x, 20);
    }

    private static void foretoldRefusals() {
        PaperWay x = Due.way(WAY);
        D.due("no roller", x.foretold(3, 1, 20), -2);
        D.due("roller -1", x.foretold(-1, 1, 20), -2);
        D.due("-2 ahead of -3", x.foretold(3, 101, 9), -2);
        D.due("grow -1", x.foretold(0, -1, 20), -3);
        D.due("grow 101", x.foretold(0, 101, 20), -3);
        D.due("length 9", x.foretold(0, 1, 9), -3);
        D.due("length 61", x.foretold(0, 1, 61), -3);
    }

    private static void foretoldNumbers() {
        PaperWay x = Due.way(WAY);
        // at WEAR 1000 ahead of the 10th the first roller drives no more
        D.due("100 a sheet", x.foretold(0, 100, 20), 10);
        // 50 * 999 / 1000 is 49: its TAIL ends at 495, by no roller and not OUT
        D.due("1 a sheet", x.foretold(0, 1, 20), 1);
        D.due("none grows, none fails", x.foretold(0, 0, 20), -1);
        D.due("the last two share a sheet of 60: never", x.foretold(1, 100, 60), -1);
        x.set(0, 0, 960);
        D.due("980, then 1000", x.foretold(0, 20, 20), 2);
        D.due("WEAR as it was", x.set(0, 0, 980), 960);
        D.due("980 and 1: 50 * 19 / 1000 is 0", x.foretold(0, 1, 20), 1);
        D.due("980 drives by 1 a tick: OUT within 400", x.foretold(0, 0, 20), -1);
        D.due("WEAR stays", x.set(0, 0, 970), 980);
        D.due("970 and 11 times 1 is 981", x.foretold(0, 1, 20), 11);
        x.set(0, 0, 1000);
        D.due("1000 at most", x.foretold(0, 100, 20), 1);
        // 400 ticks: roller 1 speed 9, WEAR so that it goes by 1 a tick
        PaperWay y = Due.way("way 40; roller 1 speed 1; roller 39 speed 9; eye 3;");
        y.set(0, 0, 900);
        // from 10 to 390 by 1 a tick: 380 ticks; 480, 570, 660: TAIL 400 with 60 steps would be 1000
        D.due("OUT in time", y.foretold(0, 0, 50), -1);
        PaperWay z = Due.way("way 50; roller 1 speed 1; roller 49 speed 9; eye 3;");
        z.set(0, 0, 900);
        D.due("480 ticks are too many", z.foretold(0, 0, 50), 1);
        // 390 ticks by 1 to HEAD 400; then TAIL -90 and 10 times 50 is 410, or TAIL -140 and 11 times 50
        PaperWay v = Due.way("way 41; roller 1 speed 1; roller 40 speed 5;");
        v.set(0, 0, 900);
        D.due("OUT in tick 400", v.foretold(0, 0, 49), -1);
        D.due("OUT in tick 401 is too late", v.foretold(0, 0, 54), 1);
    }

    private static void foretoldIsOnTheWayAsItIs() {
        PaperWay x = Due.way(WAY);
        x.corner(40, true);
        D.due("a corner stops the first", x.foretold(0, 0, 20), 1);
        x.corner(40, false);
        x.lay(20, false);
        x.tick(7);
        D.due("sheets aside", x.foretold(2, 100, 20), 7);
        D.due("NOW stays", x.count(3), 7);
        D.due("the sheet stays", x.sheet(0, 1), 450);
        D.due("eyes stay", x.sees(1), 1);
        // beats from tick 1 on
        x.set(0, 1, 2);
        x.set(1, 1, 2);
        D.due("beats slow it, no more", x.foretold(2, 0, 20), -1);
    }

    private static void creaseRefusals() {
        PaperWay x = Due.way(WAY);
        D.due("length 9", x.crease(9, -1, -1, -1, -1), -3);
        D.due("length 61", x.crease(61, -1, -1, -1, -1), -3);
        D.due("a 61", x.crease(20, 61, -1, -1, -1), -3);
        D.due("a -2", x.crease(20, -2, -1, -1, -1), -3);
        D.due("b -2", x.crease(20, 5, -2, -1, -1), -3);
        D.due("c -2", x.crease(20, 5, 4, -2, -1), -3);
        D.due("c 61", x.crease(20, 60, 59, 61, -1), -3);
        D.due("a as b", x.crease(20, 5, 5, -1, -1), -3);
        D.due("b as c", x.crease(20, 6, 5, 5, -1), -3);
        D.due("rising", x.crease(20, 5, 6, -1, -1), -3);
        D.due("b rising", x.crease(20, 9, 5, 6, -1), -3);
        D.due("NONE ahead of b", x.crease(20, -1, 5, -1, -1), -3);
        D.due("NONE ahead of c", x.crease(20, 5, -1, 4, -1), -3);
        D.due("NONE ahead of b, c", x.crease(20, -1, 5, 4, -1), -3);
        D.due("all zero", x.crease(20, 0, 0, 0, -1), -3);
        D.due("-3 ahead of NONE", x.crease(20, 5, 5, -1, 77), -3);
        D.due("60, 59, 58 is a row", x.crease(60, 60, 59, 58, -1), 0);
        D.due("1, 0 is a row", x.crease(20, 1, 0, -1, -1), 0);
    }

    private static void creases() {
        PaperWay x = Due.way("way 60; roller 5 speed 5; roller 20 speed 5; roller 30 speed 5; roller 34 speed 1;"
                + " roller 36 speed 1;");
        // just roller 20: h 25, with roller 5 20 steps behind HEAD and out from under it
        D.due("5 alone", x.crease(20, 5, -1, -1, -1), 2);
        D.due("of roller 5", x.crease(20, 5, -1, -1, 0), 10);
        D.due("of roller 20", x.crease(20, 5, -1, -1, 1), 25);
        D.due("no third", x.crease(20, 5, -1, -1, 2), -1);
        D.due("no -2nd", x.crease(20, 5, -1, -1, -2), -1);
        D.due("21 steps: roller 5 is under it at 25", x.crease(21, 5, -1, -1, -1), 1);
        D.due("and is a crease", x.crease(21, 20, 5, -1, 0), 25);
        D.due("two rollers", x.crease(20, 12, 2, -1, -1), 1);
        D.due("h 32", x.crease(20, 12, 2, -1, 0), 32);
        D.due("three rollers", x.crease(20, 14, 4, 0, 0), 34);
        D.due("four are never told", x.crease(20, 19, 9, 5, -1), 0);
        D.due("three of four", x.crease(20, 9, 5, 3, -1), 0);
        D.due("three, one gone", x.crease(10, 9, 5, 3, 0), 39);
        D.due("at the roller", x.crease(10, 0, -1, -1, -1), 3);
        D.due("the first", x.crease(10, 0, -1, -1, 0), 5);
        D.due("the third", x.crease(10, 0, -1, -1, 2), 30);
        D.due("none under it", x.crease(10, -1, -1, -1, -1), 4 + 5 + 15);
        D.due("h 1", x.crease(10, -1, -1, -1, 0), 1);
        D.due("h 15", x.crease(10, -1, -1, -1, 4), 15);
        D.due("h 60", x.crease(10, -1, -1, -1, 23), 60);
        D.due("a crease beyond the length", x.crease(10, 10, -1, -1, -1), 0);
        D.due("the last step", x.crease(10, 9, -1, -1, -1), 3);
        x.lay(20, false);
        x.set(0, 0, 1000);
        x.tick(9);
        D.due("the way as a whole, whatever jams", x.crease(20, 5, -1, -1, -1), 2);
    }
}
