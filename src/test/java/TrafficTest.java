/** Promises 7 to 12: sheets laid, ticks, jams, the pocket, eyes. */
public final class TrafficTest {
    private static final Due D = new Due("TrafficTest");

    public static void main(String[] args) {
        layRefusals();
        layFree();
        fortySheets();
        ticks();
        sheetAnswers();
        out();
        oneBehindAnother();
        jamOfTwo();
        standingTurnsOnceGone();
        turning();
        pocketIsFull();
        backIsBlocked();
        waitingBeyondTheEnd();
        clearing();
        cornerLeft();
        eyes();
        passings();
        D.end();
    }

    private static void layRefusals() {
        PaperWay x = Due.way("roller 10 speed 5;");
        D.due("lay 9", x.lay(9, false), -3);
        D.due("lay 61", x.lay(61, false), -3);
        D.due("lay least", x.lay(Integer.MIN_VALUE, true), -3);
        D.due("-3 ahead of -5", x.lay(61, true), -3);
        D.due("no turn", x.lay(20, true), -5);
        D.due("lay 60", x.lay(60, false), 0);
        D.due("HEAD", x.sheet(0, 1), 100);
        D.due("TAIL", x.sheet(0, 2), -500);
        D.due("side", x.sheet(0, 3), 1);
        D.due("over one under way", x.lay(10, false), -5);
        PaperWay y = Due.way("eye 3; roller 99 speed 1;");
        D.due("lay 10", y.lay(10, false), 0);
        D.due("HEAD", y.sheet(0, 1), 990);
        D.due("TAIL", y.sheet(0, 2), 890);
    }

    private static void layFree() {
        PaperWay x = Due.way("roller 10 speed 1; roller 11 speed 1; turn 30 back 2 hold 1 rest 1;");
        x.lay(10, false);
        x.tick(9);
        D.due("TAIL 90", x.sheet(0, 2), 90);
        D.due("over it by a step", x.lay(10, false), -5);
        x.tick(1);
        D.due("TAIL 100", x.sheet(0, 2), 100);
        D.due("just free", x.lay(10, false), 1);
        // one that came back lies behind the first roller, and a long one would lie over it
        PaperWay y = Due.way("roller 10 speed 9; roller 28 speed 9; turn 11 back 2 hold 1 rest 1;");
        y.lay(10, true);
        y.tick(4);
        D.due("came back", y.sheet(0, 3), 2);
        D.due("HEAD 20", y.sheet(0, 1), 20);
        D.due("a TAIL of 0 is below that HEAD", y.lay(10, false), -5);
        PaperWay z = Due.way("roller 12 speed 9; roller 20 speed 9; turn 11 back 2 hold 1 rest 1;");
        z.lay(10, true);
        z.tick(3);
        D.due("came back", z.sheet(0, 1), 20);
        D.due("lies over it", z.lay(11, false), -5);
        D.due("TAIL at its HEAD: free", z.lay(10, false), 1);
    }

    private static void fortySheets() {
        PaperWay x = Due.way("way 40; roller 30 speed 9; roller 39 speed 9;");
        for (int i = 0; i < 40; i++) {
            D.due("lay " + i, x.lay(10, false), i);
            x.tick(2);
        }
        D.due("a 41st", x.lay(10, false), -4);
        D.due("-3 ahead of -4", x.lay(9, false), -3);
        D.due("-4 ahead of -5", x.lay(10, true), -4);
        D.due("40 sheets", x.count(4), 40);
        D.due("sheet 39", x.sheet(39, 0), 0);
        D.due("sheet 40", x.sheet(40, 0), -2);
        D.due("a new text", Due.text(x, "roller 1 speed 1;"), 1);
        D.due("from 0 on", x.lay(10, false), 0);
    }

    private static void ticks() {
        PaperWay x = Due.way("roller 10 speed 5;");
        D.due("tick -1", x.tick(-1), -3);
        D.due("tick 301", x.tick(301), -3);
        D.due("tick greatest", x.tick(Integer.MAX_VALUE), -3);
        D.due("tick 0", x.tick(0), 0);
        D.due("tick 300", x.tick(300), 300);
        D.due("NOW", x.count(3), 300);
        x.lay(10, false);
        D.due("two go on, five stand", x.tick(300), 7);
        D.due("JAMMED", x.count(6), 0);
        D.due("none behind a JAM", x.tick(300), 0);
        D.due("the number goes ahead", x.tick(301), -3);
        D.due("NOW", x.count(3), 307);
        x.clear(false);
        D.due("on again", x.tick(3), 3);
        D.due("NOW", x.count(3), 310);
    }

    private static void sheetAnswers() {
        PaperWay x = Due.way("roller 10 speed 5; turn 30 back 5 hold 1 rest 1;");
        D.due("no sheet", x.sheet(0, 0), -2);
        x.lay(20, true);
        D.due("no what", x.sheet(0, 5), -2);
        D.due("what -1", x.sheet(0, -1), -2);
        D.due("sheet -1", x.sheet(-1, 0), -2);
        D.due("sheet 1", x.sheet(1, 0), -2);
        D.due("under way", x.sheet(0, 0), 0);
        D.due("HEAD", x.sheet(0, 1), 100);
        D.due("TAIL", x.sheet(0, 2), -100);
        D.due("side", x.sheet(0, 3), 1);
        D.due("STOOD", x.sheet(0, 4), 0);
        x.tick(6);
        D.due("HEAD", x.sheet(0, 1), 300);
        D.due("STOOD", x.sheet(0, 4), 2);
    }

    private static void out() {
        PaperWay x = Due.way("way 40; roller 20 speed 9; roller 39 speed 1;");
        x.lay(10, false);
        x.tick(2);
        D.due("HEAD", x.sheet(0, 1), 380);
        x.tick(1);
        D.due("no roller under it", x.sheet(0, 1), 380);
        PaperWay y = Due.way("way 40; roller 30 speed 9; roller 38 speed 3; roller 39 speed 1;");
        y.lay(10, false);
        // 300, 390, 480, then by 39 alone: 490
        y.tick(3);
        D.due("HEAD", y.sheet(0, 1), 490);
        D.due("TAIL 390: not out", y.sheet(0, 0), 0);
        D.due("stands", y.tick(10), 5);
        D.due("JAMMED", y.sheet(0, 0), 3);
        PaperWay z = Due.way("way 40; roller 30 speed 9; roller 39 speed 2;");
        z.lay(10, false);
        z.tick(2);
        D.due("HEAD", z.sheet(0, 1), 480);
        D.due("under way", z.sheet(0, 0), 0);
        z.tick(1);
        D.due("TAIL 400", z.sheet(0, 2), 400);
        D.due("OUT", z.sheet(0, 0), 2);
        PaperWay w = Due.way("way 40; roller 35 speed 1; roller 39 speed 7;");
        w.lay(10, false);
        // 350, 360 .. 390, 460, 530
        w.tick(5);
        D.due("HEAD", w.sheet(0, 1), 460);
        w.tick(1);
        D.due("TAIL 430 is OUT", w.sheet(0, 0), 2);
        D.due("where it was latest", w.sheet(0, 2), 430);
        D.due("it goes no more", w.tick(9) + w.sheet(0, 1), 539);
        PaperWay u = Due.way("way 40; roller 31 speed 1; roller 39 speed 6;");
        u.lay(13, false);
        // 310 .. 390 in 8 ticks; 450, 510; TAIL 380; 570
        u.tick(10);
        D.due("TAIL 380", u.sheet(0, 2), 380);
        u.tick(1);
        D.due("OUT", u.sheet(0, 0), 2);
        // TAIL just at the end: 400
        PaperWay t = Due.way("way 40; roller 30 speed 1; roller 39 speed 4;");
        t.lay(17, false);
        // 300 .. 390 in 9 ticks, TAIL 220; 260, 300, 340, 380, 420
        t.tick(13);
        D.due("TAIL 380", t.sheet(0, 2), 380);
        PaperWay s = Due.way("way 40; roller 30 speed 1; roller 39 speed 6;");
        s.lay(17, false);
        // TAIL 220 at tick 9; 280, 340, 400
        s.tick(11);
        D.due("TAIL 340: under way", s.sheet(0, 0), 0);
        s.tick(1);
        D.due("TAIL 400", s.sheet(0, 2), 400);
        D.due("just OUT", s.sheet(0, 0), 2);
    }

    private static void oneBehindAnother() {
        PaperWay x = Due.way("roller 10 speed 9; roller 25 speed 1; roller 40 speed 1;");
        x.lay(10, false);
        x.tick(2);
        D.due("HEAD of the first", x.sheet(0, 1), 280);
        D.due("a second", x.lay(15, false), 1);
        x.tick(1);
        D.due("the first goes by its roller", x.sheet(0, 1), 290);
        D.due("the second comes up to its tail", x.sheet(1, 1), 190);
        x.tick(1);
        D.due("behind it, as it is now", x.sheet(1, 1), 200);
        D.due("STOOD", x.sheet(1, 4), 0);
        x.corner(30, true);
        x.tick(2);
        D.due("held by the tail of one at a corner", x.sheet(1, 1), 200);
        D.due("STOOD of both", x.sheet(0, 4) * 10 + x.sheet(1, 4), 22);
        // one that is OUT holds none, in the same tick already
        PaperWay y = Due.way("way 40; roller 38 speed 9; roller 39 speed 3;");
        y.lay(10, false);
        y.tick(1);
        y.set(0, 0, 1000);
        y.set(1, 0, 666);
        y.tick(1);
        D.due("TAIL 380", y.sheet(0, 2), 380);
        D.due("a second", y.lay(10, false), 1);
        y.set(0, 0, 0);
        y.set(1, 0, 0);
        y.tick(1);
        D.due("the first is OUT at TAIL 410", y.sheet(0, 0) * 1000 + y.sheet(0, 2), 2410);
        D.due("the second isn't held", y.sheet(1, 1), 470);
    }

    private static void jamOfTwo() {
        PaperWay x = Due.way("roller 10 speed 5; roller 30 speed 5;");
        x.lay(10, false);
        x.tick(2);
        x.lay(10, false);
        x.set(0, 0, 1000);
        x.set(1, 0, 1000);
        D.due("both stand", x.tick(20), 5);
        D.due("the first is JAMMED", x.count(6), 0);
        D.due("STOOD", x.sheet(0, 4), 5);
        D.due("the second is under way", x.sheet(1, 0), 0);
        D.due("STOOD", x.sheet(1, 4), 5);
        D.due("both TAKEN", x.clear(false), 2);
        D.due("STOOD as it was", x.sheet(1, 4), 5);
    }

    private static void standingTurnsOnceGone() {
        PaperWay x = Due.way("roller 10 speed 5;");
        x.set(0, 0, 1000);
        x.lay(10, false);
        x.tick(4);
        D.due("STOOD 4", x.sheet(0, 4), 4);
        x.set(0, 0, 0);
        x.tick(1);
        D.due("STOOD 0", x.sheet(0, 4), 0);
        x.set(0, 0, 1000);
        D.due("five more", x.tick(9), 5);
    }

    private static void turning() {
        PaperWay x = Due.way("roller 10 speed 5; roller 20 speed 5; turn 19 back 8 hold 2 rest 3;");
        x.lay(12, true);
        // HEAD 100, 150, 200, 250, 300: TAIL 180; 350: TAIL 230, beyond 190
        x.tick(4);
        D.due("under way", x.sheet(0, 0), 0);
        x.tick(1);
        D.due("in the POCKET at once", x.sheet(0, 0), 1);
        D.due("in the POCKET", x.count(5), 1);
        D.due("HEAD where it was", x.sheet(0, 1), 350);
        D.due("STOOD", x.sheet(0, 4), 0);
        x.tick(2);
        D.due("two ticks ago", x.sheet(0, 0), 1);
        x.tick(1);
        D.due("three ticks ago", x.sheet(0, 0), 0);
        D.due("HEAD", x.sheet(0, 1), 80);
        D.due("TAIL", x.sheet(0, 2), -40);
        D.due("side", x.sheet(0, 3), 2);
        D.due("no roller there", x.tick(10), 5);
        D.due("JAMMED", x.sheet(0, 0), 3);
        // on side 2 it isn't turned again; TAIL just at the turn
        String way = "way 60; roller 10 speed 5; roller 20 speed 5; roller 29 speed 5; roller 40 speed 9;"
                + " roller 59 speed 9; turn 20 back 12 hold 1 rest 1;";
        PaperWay z = Due.way(way);
        z.lay(20, true);
        z.tick(5);
        D.due("HEAD", z.sheet(0, 1), 350);
        z.tick(1);
        D.due("HEAD 400, TAIL 200", z.sheet(0, 0), 1);
        z.tick(1);
        D.due("back", z.sheet(0, 1), 120);
        z.tick(9);
        D.due("HEAD beyond the turn", z.sheet(0, 0) * 10000 + z.sheet(0, 1), 690);
        z.tick(2);
        D.due("OUT on side 2", z.sheet(0, 0) * 10 + z.sheet(0, 3), 22);
        // one that isn't to be turned goes by
        PaperWay v = Due.way(way);
        v.lay(20, false);
        v.tick(7);
        D.due("not turned", v.sheet(0, 0) * 1000 + v.sheet(0, 1), 490);
    }

    private static void pocketIsFull() {
        PaperWay x = Due.way("roller 10 speed 5; roller 15 speed 5; roller 20 speed 5; roller 60 speed 1;"
                + " turn 12 back 2 hold 1 rest 20;");
        x.lay(10, true);
        x.tick(3);
        D.due("TAIL 150: in the POCKET", x.sheet(0, 0), 1);
        x.lay(10, true);
        x.tick(3);
        D.due("the second waits", x.sheet(1, 0), 0);
        D.due("HEAD", x.sheet(1, 1), 250);
        D.due("it isn't driven, and doesn't stand", x.tick(10) + x.sheet(1, 1) + x.sheet(1, 4), 260);
        x.tick(7);
        D.due("NOW 23", x.count(3), 23);
        D.due("the first is back", x.sheet(0, 0) * 100 + x.sheet(0, 1), 20);
        D.due("the second still waits", x.sheet(1, 0) * 100 + x.count(5), 0);
        x.tick(1);
        D.due("the second went in", x.sheet(1, 0), 1);
        D.due("the first stands", x.sheet(0, 4), 1);
        // with hold 2 both lie there, the longest first
        PaperWay y = Due.way("roller 10 speed 5; roller 15 speed 5; roller 20 speed 5; roller 60 speed 1;"
                + " turn 12 back 9 hold 2 rest 5;");
        y.lay(10, true);
        y.tick(3);
        y.lay(10, true);
        y.tick(3);
        D.due("two in the POCKET", y.count(5), 2);
        y.tick(2);
        D.due("the first is back", y.sheet(0, 1), 90);
        D.due("one in the POCKET", y.count(5), 1);
        D.due("the second later, and over the first not", y.tick(3) + y.sheet(1, 0), 4);
        D.due("the first jams there", y.tick(9) + y.count(6), 2);
        D.due("taken from the POCKET, too", y.clear(false), 2);
        D.due("none in the POCKET", y.count(5), 0);
    }

    private static void backIsBlocked() {
        PaperWay x = Due.way("roller 10 speed 5; roller 15 speed 5; roller 20 speed 5; roller 29 speed 5;"
                + " turn 12 back 11 hold 1 rest 1;");
        x.lay(10, true);
        x.tick(3);
        D.due("in the POCKET", x.sheet(0, 0), 1);
        x.lay(19, false);
        x.tick(1);
        D.due("HEAD 150, TAIL -40: over where it would lie", x.sheet(0, 0), 1);
        x.tick(2);
        D.due("HEAD 250, TAIL 60", x.sheet(1, 1), 250);
        D.due("blocked: HEAD 110 is above TAIL 60", x.sheet(0, 0), 1);
        x.tick(1);
        D.due("HEAD 300, TAIL 110", x.sheet(1, 2), 110);
        D.due("just free", x.sheet(0, 0), 0);
        D.due("HEAD at back", x.sheet(0, 1), 110);
        x.tick(1);
        D.due("behind it, in order", x.sheet(0, 1), 160);
        D.due("the one ahead", x.sheet(1, 2), 160);
        // a jammed one blocks, too
        PaperWay y = Due.way("roller 10 speed 5; roller 15 speed 5; roller 20 speed 5;"
                + " turn 12 back 11 hold 1 rest 4;");
        y.lay(10, true);
        y.tick(3);
        y.lay(20, false);
        y.corner(11, true);
        D.due("it stands from tick 5 on", y.tick(20), 6);
        D.due("JAMMED", y.count(6), 1);
        D.due("over the JAMMED one not", y.sheet(0, 0), 1);
        // it comes back in the tick of the jam, where it lies free
        PaperWay v = Due.way("roller 20 speed 5; roller 25 speed 5; roller 30 speed 5;"
                + " turn 22 back 10 hold 1 rest 6;");
        v.lay(10, true);
        v.tick(3);
        D.due("in the POCKET", v.sheet(0, 0), 1);
        v.corner(21, true);
        v.lay(10, false);
        D.due("stands from tick 5 on", v.tick(20), 6);
        D.due("JAMMED", v.count(6), 1);
        D.due("back in that tick", v.sheet(0, 0) * 1000 + v.sheet(0, 1), 100);
        D.due("both taken", v.clear(false), 2);
    }

    private static void waitingBeyondTheEnd() {
        PaperWay x = Due.way("way 40; roller 20 speed 1; roller 30 speed 9; roller 39 speed 9;"
                + " turn 39 back 5 hold 1 rest 20;");
        x.lay(15, true);
        x.tick(10);
        D.due("HEAD 300", x.sheet(0, 1), 300);
        // 390, 480, 570: TAIL 420, beyond the end, but in the pocket
        x.tick(3);
        D.due("in the POCKET", x.sheet(0, 0), 1);
        x.lay(15, true);
        x.tick(13);
        D.due("the POCKET is full", x.count(5), 1);
        D.due("its TAIL is beyond the end", x.sheet(1, 2), 420);
        D.due("so it is OUT", x.sheet(1, 0), 2);
    }

    private static void clearing() {
        PaperWay x = Due.way("roller 10 speed 5; roller 15 speed 5; roller 20 speed 5; eye 12;"
                + " turn 12 back 5 hold 1 rest 20;");
        D.due("none is JAMMED", x.clear(true), -5);
        x.lay(10, true);
        D.due("none is JAMMED", x.clear(true), -5);
        x.tick(3);
        x.lay(20, false);
        x.corner(13, true);
        D.due("ticks", x.tick(99), 6);
        D.due("sees it JAMMED", x.sees(0), 1);
        D.due("no lay behind a JAM", x.lay(10, false), -5);
        D.due("two TAKEN", x.clear(true), 2);
        D.due("where a corner is, none is left", x.count(7), 1);
        D.due("TAKEN", x.sheet(0, 0), 4);
        D.due("TAKEN", x.sheet(1, 0), 4);
        D.due("HEAD as it was", x.sheet(1, 1), 130);
        D.due("none JAMMED", x.count(6), -1);
        D.due("POCKET is empty", x.count(5), 0);
        D.due("sheets stay numbered", x.count(4), 2);
        D.due("sees 0", x.sees(0), 0);
        D.due("the first ended in the POCKET", x.passing(0, 0, 1), 3);
        D.due("cut off", x.passing(0, 1, 1), -1);
        D.due("none JAMMED any more", x.clear(true), -5);
        D.due("the way is free", x.lay(20, false), 2);
        x.tick(2);
        D.due("sees", x.sees(0), 1);
        D.due("a third passing", x.passing(0, 2, 0), 10);
        D.due("the one cut off stays so", x.passing(0, 1, 1), -1);
    }

    private static void cornerLeft() {
        PaperWay x = Due.way("way 40; roller 39 speed 3;");
        x.lay(10, false);
        x.tick(30);
        D.due("HEAD beyond the end", x.sheet(0, 1), 510);
        PaperWay y = Due.way("way 40; roller 39 speed 2;");
        y.lay(10, false);
        y.tick(30);
        D.due("HEAD beyond the end", y.sheet(0, 1), 490);
        D.due("TAKEN", y.clear(true), 1);
        D.due("a corner at LENGTH", y.corner(40, false), true);
        PaperWay z = Due.way("roller 10 speed 5;");
        z.set(0, 0, 700);
        z.lay(10, false);
        // 15 tenths a tick: 115 .. 205: TAIL 105
        z.tick(30);
        D.due("HEAD 205", z.sheet(0, 1), 205);
        D.due("cleared, no corner", z.clear(false), 1);
        D.due("none left", z.count(7), 0);
        z.lay(10, false);
        z.tick(30);
        D.due("cleared, a corner", z.clear(true), 1);
        D.due("cut: at 20", z.corner(20, false), true);
        z.corner(1, true);
        z.corner(2, true);
        z.corner(3, true);
        z.lay(10, false);
        z.tick(30);
        D.due("cleared with three corners", z.clear(true), 1);
        D.due("no fourth", z.count(7), 3);
        D.due("no fourth", z.corner(20, false), false);
    }

    private static void eyes() {
        PaperWay x = Due.way("roller 10 speed 1; eye 1; eye 10; eye 11; eye 100;");
        D.due("no eye", x.sees(4), -2);
        D.due("eye -1", x.sees(-1), -2);
        x.lay(10, false);
        D.due("ahead of any tick", x.sees(1), 0);
        x.tick(1);
        D.due("HEAD 110, TAIL 10: eye at 1 isn't above TAIL", x.sees(0), 0);
        D.due("eye at 10", x.sees(1), 1);
        D.due("HEAD at the eye", x.sees(2), 1);
        D.due("far", x.sees(3), 0);
        x.tick(8);
        D.due("TAIL 90", x.sees(1), 1);
        x.tick(1);
        D.due("TAIL 100", x.sees(1), 0);
        // a sheet laid behind the latest tick isn't seen yet
        D.due("lay", x.lay(10, false), 1);
        D.due("as behind the latest tick", x.sees(1), 0);
        x.tick(1);
        D.due("in the next one", x.sees(1), 1);
        // two sheets end to end keep an eye seeing
        D.due("passings", x.passing(1, 0, 1), 11 - 1);
        D.due("passings", x.passing(1, 1, 0), 11);
        PaperWay y = Due.way("way 60; roller 10 speed 1; roller 20 speed 1; eye 15;");
        y.lay(10, false);
        y.tick(10);
        y.lay(10, false);
        y.tick(5);
        D.due("tail of the first, head of the second", y.sees(0), 1);
        y.tick(5);
        D.due("one passing", y.passing(0, 1, 0), -2);
        D.due("from tick 5 on", y.passing(0, 0, 0), 5);
        D.due("it goes on", y.passing(0, 0, 1), -1);
        // OUT and in the POCKET: not seen
        PaperWay z = Due.way("way 40; roller 30 speed 9; roller 38 speed 9; eye 40; turn 31 back 2 hold 1 rest 1;");
        z.lay(10, true);
        z.tick(1);
        D.due("HEAD 390", z.sees(0), 0);
        z.tick(1);
        D.due("TAIL 380, in the POCKET", z.sheet(0, 0) * 1000 + z.sheet(0, 2), 1380);
        D.due("in the POCKET it isn't seen", z.sees(0), 0);
    }

    private static void passings() {
        PaperWay x = Due.way("way 40; roller 20 speed 9; roller 29 speed 9; roller 38 speed 9; eye 25; eye 40;");
        for (int i = 0; i < 14; i++) {
            D.due("lay " + i, x.lay(10, false), i);
            x.tick(3);
        }
        // laid at 0, 3 .. : HEAD 290, TAIL 190 in the first tick, 380, 280 in the second
        for (int i = 0; i < 12; i++) {
            D.due("passing " + i + " from", x.passing(0, i, 0), 3 * i + 1);
            D.due("passing " + i + " to", x.passing(0, i, 1), 3 * i + 2);
        }
        D.due("a 13th", x.passing(0, 12, 0), -2);
        D.due("passing -1", x.passing(0, -1, 0), -2);
        D.due("no what", x.passing(0, 0, 2), -2);
        D.due("what -1", x.passing(0, 0, -1), -2);
        D.due("no eye", x.passing(2, 0, 0), -2);
        D.due("eye -1", x.passing(-1, 0, 0), -2);
        D.due("the 12th stays", x.passing(0, 11, 1), 35);
        D.due("least i", x.passing(0, Integer.MIN_VALUE, 0), -2);
        D.due("sheet 0 passed the other eye, too", x.passing(1, 0, 0), 3);
        PaperWay y = Due.way("roller 10 speed 5; roller 15 speed 5; eye 12;");
        y.lay(20, false);
        D.due("none yet", y.passing(0, 0, 0), -2);
        y.tick(1);
        D.due("from tick 1 on", y.passing(0, 0, 0), 1);
        D.due("not yet", y.passing(0, 0, 1), -1);
        y.tick(4);
        D.due("TAIL 150", y.passing(0, 0, 1), 5);
    }
}
