/** Promises 5 and 6: wear and beats of rollers, corners. */
public final class FlawsTest {
    private static final Due D = new Due("FlawsTest");

    public static void main(String[] args) {
        setAnswers();
        drives();
        beats();
        cornerAnswers();
        cornersStop();
        D.end();
    }

    private static void setAnswers() {
        PaperWay x = Due.way("roller 10 speed 5; roller 20 speed 5;");
        D.due("set no roller", x.set(2, 0, 5), -2);
        D.due("set roller -1", x.set(-1, 0, 5), -2);
        D.due("set least roller", x.set(Integer.MIN_VALUE, 0, 5), -2);
        D.due("set no what", x.set(0, 2, 5), -2);
        D.due("set what -1", x.set(0, -1, 5), -2);
        D.due("-2 goes ahead of -3", x.set(0, 2, -5), -2);
        D.due("wear -1", x.set(0, 0, -1), -3);
        D.due("wear 1001", x.set(0, 0, 1001), -3);
        D.due("wear 1000", x.set(0, 0, 1000), 0);
        D.due("wear what it was", x.set(0, 0, 0), 1000);
        D.due("wear 0", x.set(0, 0, 7), 0);
        D.due("refused leaves it", x.set(0, 0, 1001), -3);
        D.due("wear 7", x.set(0, 0, 7), 7);
        D.due("beat 1", x.set(1, 1, 1), -3);
        D.due("beat -1", x.set(1, 1, -1), -3);
        D.due("beat 21", x.set(1, 1, 21), -3);
        D.due("beat 20", x.set(1, 1, 20), 0);
        D.due("beat 2", x.set(1, 1, 2), 20);
        D.due("beat 0", x.set(1, 1, 0), 2);
        D.due("wear of 1 is its own", x.set(1, 0, 3), 0);
    }

    private static int headAfter(String way, int wear0, int wear1, int ticks) {
        PaperWay x = Due.way(way);
        x.set(0, 0, wear0);
        x.set(1, 0, wear1);
        x.lay(30, false);
        x.tick(ticks);
        return x.sheet(0, 1);
    }

    private static void drives() {
        String one = "roller 30 speed 7; damp 1;";
        D.due("70 * 999 / 1000", headAfter(one, 0, 0, 1), 300 + 69);
        D.due("70 * 666 / 1000", headAfter(one, 333, 0, 1), 300 + 46);
        D.due("twice", headAfter(one, 333, 0, 2), 300 + 92);
        D.due("wear and damp 1000", headAfter(one, 999, 0, 3), 300);
        D.due("wear and damp above", headAfter(one, 1000, 0, 3), 300);
        D.due("grip 1 gives nothing", headAfter(one, 998, 0, 3), 300);
        String two = "roller 30 speed 2; roller 34 speed 9; damp 90;";
        D.due("first alone: 20 * 910 / 1000", headAfter(two, 0, 0, 1), 318);
        D.due("the second isn't under it yet", headAfter(two, 0, 0, 2), 336);
        D.due("at 354 it is: 90 * 910 / 1000", headAfter(two, 0, 0, 4), 354 + 81);
        D.due("the greatest, be it the first", headAfter(two, 0, 810, 4), 354 + 18);
        D.due("both alike", headAfter("roller 30 speed 2; roller 32 speed 2;", 0, 0, 3), 360);
        // the head at a roller's place is under it, the tail at its place is not
        D.due("at the roller", headAfter("roller 30 speed 2; roller 32 speed 9;", 0, 0, 2), 320 + 90);
        PaperWay x = Due.way("roller 10 speed 5;");
        x.lay(10, false);
        x.tick(2);
        D.due("tail at the roller", x.sheet(0, 2), 100);
        x.tick(1);
        D.due("no drive any more", x.sheet(0, 1), 200);
        PaperWay y = Due.way("roller 10 speed 3;");
        y.lay(10, false);
        y.tick(4);
        D.due("tail beyond by less than a step", y.sheet(0, 2), 120);
        D.due("it stays", y.tick(1) + y.sheet(0, 1), 221);
    }

    private static void beats() {
        PaperWay x = Due.way("roller 10 speed 5; roller 12 speed 1;");
        x.tick(1);
        x.set(0, 1, 4);
        x.lay(30, false);
        int[] due = {150, 200, 210, 260, 310, 360, 370};
        for (int i = 0; i < due.length; i++) {
            x.tick(1);
            D.due("HEAD in tick " + (2 + i), x.sheet(0, 1), due[i]);
        }
    }

    private static void cornerAnswers() {
        PaperWay x = Due.way("way 40; roller 10 speed 5;");
        D.due("corner 0", x.corner(0, true), false);
        D.due("corner 41", x.corner(41, true), false);
        D.due("corner least", x.corner(Integer.MIN_VALUE, true), false);
        D.due("corner greatest", x.corner(Integer.MAX_VALUE, true), false);
        D.due("corner taken where none is", x.corner(5, false), false);
        D.due("corner 0 taken", x.corner(0, false), false);
        D.due("corner 1", x.corner(1, true), true);
        D.due("corner 40", x.corner(40, true), true);
        D.due("corner 40 again", x.corner(40, true), false);
        D.due("two of them", x.count(7), 2);
        D.due("corner 20", x.corner(20, true), true);
        D.due("a fourth", x.corner(21, true), false);
        D.due("three", x.count(7), 3);
        D.due("the first away", x.corner(1, false), true);
        D.due("it is away", x.corner(1, false), false);
        D.due("two", x.count(7), 2);
        D.due("the others stay", x.corner(40, true), false);
        D.due("the others stay", x.corner(20, true), false);
        D.due("a third", x.corner(21, true), true);
    }

    private static void cornersStop() {
        PaperWay x = Due.way("roller 10 speed 5; roller 30 speed 3;");
        x.corner(9, true);
        x.corner(17, true);
        x.corner(13, true);
        x.lay(30, false);
        x.tick(1);
        D.due("to the least not below HEAD", x.sheet(0, 1), 130);
        x.tick(1);
        D.due("a corner at HEAD holds it", x.sheet(0, 1), 130);
        D.due("STOOD", x.sheet(0, 4), 1);
        x.corner(13, false);
        x.tick(1);
        D.due("to the next one", x.sheet(0, 1), 170);
        D.due("STOOD 0", x.sheet(0, 4), 0);
        x.corner(17, false);
        x.corner(16, true);
        x.tick(1);
        D.due("one behind HEAD doesn't hold it", x.sheet(0, 1), 220);
        x.corner(27, true);
        x.tick(1);
        D.due("HEAD just at a corner", x.sheet(0, 1), 270);
    }
}
