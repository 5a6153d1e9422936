/** Promises 2, 3, 4 and 38: the tape, the text of a way, its faults, the counts. */
public final class WayTextTest {
    private static final Due D = new Due("WayTextTest");

    public static void main(String[] args) {
        tape();
        goodTexts();
        firstKind();
        secondKind();
        bounds();
        doublesAndTooMany();
        whatStaysAndGoes();
        oneTextAfterAnother();
        sheetsGoWithTheirText();
        fullTapes();
        faultCall();
        counts();
        D.end();
    }

    private static void tape() {
        PaperWay x = new PaperWay();
        for (int i = 1; i <= 20; i++) {
            D.due("feed " + i, x.feed(i, i, i, i, i), 20 * i);
        }
        D.due("feed beyond 400", x.feed(1, 2, 3, 4, 5), -1);
        D.due("tape stays", x.count(12), 400);
        D.due("text above", x.text(401), -2);
        D.due("text below", x.text(-1), -2);
        D.due("text least", x.text(Integer.MIN_VALUE), -2);
        D.due("tape stays", x.count(12), 400);
        D.due("no fault yet", x.fault(0), 0);
        // the first bytes are 0 0 0 1: none begins a token
        D.due("text of all", x.text(400), -11);
        D.due("tape is empty", x.count(12), 0);
        D.due("text above empty", x.text(1), -2);
        D.due("fault stays", x.fault(0), 1);
        D.due("place stays", x.fault(1), 0);

        PaperWay y = new PaperWay();
        // "roll" "er 5" " spe" "ed 1" ";   ": the highest byte of each int comes first
        D.due("feed", y.feed(0x726f6c6c, 0x65722035, 0x20737065, 0x65642031, 0x3b202020), 20);
        D.due("text", y.text(17), 1);
        D.due("one roller", y.count(0), 1);
        D.due("the rest of the tape is gone", y.count(12), 0);

        PaperWay z = new PaperWay();
        Due.feed(z, Due.bytes("roller 5 speed 1;eye 200;"), 25);
        D.due("only the first n count", z.text(17), 1);
        D.due("no eye", z.count(1), 0);
    }

    private static void good(String s, int lines) {
        PaperWay x = new PaperWay();
        D.due("text " + s, Due.text(x, s), lines);
        D.due("fault(0) of " + s, x.fault(0), 0);
        D.due("fault(1) of " + s, x.fault(1), -1);
    }

    private static void bad(String s, int kind, int place) {
        PaperWay x = new PaperWay();
        D.due("text " + s, Due.text(x, s), -10 - kind);
        D.due("fault(0) of " + s, x.fault(0), kind);
        D.due("fault(1) of " + s, x.fault(1), place);
    }

    private static void goodTexts() {
        good("roller 1 speed 1;", 1);
        good("way 40; roller 1 speed 9;", 2);
        good("way 300; roller 299 speed 9; eye 300;", 3);
        good("roller 99 speed 9; eye 100;", 2);
        good("way\n40\n;\nroller\n1\nspeed 1 ; ", 2);
        good("way40;roller1speed1;eye1;turn2back1hold1rest1;damp0;", 5);
        good("  roller 001 speed 01;", 1);
        good("damp 90; turn 99 back 98 hold 3 rest 20; eye 1; eye 2; roller 5 speed 5; roller 6 speed 5;", 6);
        good("eye 5; roller 5 speed 5; eye 6; roller 6 speed 1; damp 5; eye 7;", 6);
    }

    private static void firstKind() {
        bad("Way 40;", 1, 0);
        bad("way 1000;", 1, 4);
        bad("way 0040; roller 1 speed 1;", 1, 4);
        bad("roller 5 speed 5, ", 1, 16);
        bad("roller 5 speed\t5;", 1, 14);
        bad("roller 5 speed -5;", 1, 15);
        bad("roller 5 speed 5;" + (char) 0, 1, 17);
        bad("roller 5 speed 5;" + (char) 200, 1, 17);
        bad("roller 5 speed 5;" + (char) 13, 1, 17);
        bad("roller {5 speed 5;", 1, 7);
        bad("roller `5 speed 5;", 1, 7);
        // the first fault along the text is the one that counts
        bad("roller 0 speed 12345;", 3, 7);
        bad("roller 5 eye 12345;", 2, 9);
        bad("roller 12345 eye;", 1, 7);
    }

    private static void secondKind() {
        bad("", 2, 0);
        bad("   ", 2, 3);
        bad("way 50;", 2, 7);
        bad("eye 5;  ", 2, 8);
        bad("way", 2, 3);
        bad("way 40", 2, 6);
        bad("roller 5 speed 5", 2, 16);
        bad("roller 5 speed 5  ", 2, 18);
        bad("rollers 5 speed 5;", 2, 0);
        bad("rolle 5 speed 5;", 2, 0);
        bad("5;", 2, 0);
        bad(";", 2, 0);
        bad("roller 5 speed 5;;", 2, 17);
        bad("roller 5 5 speed 5;", 2, 9);
        bad("roller speed 5;", 2, 7);
        bad("roller 5 hold 5;", 2, 9);
        bad("roller 5 speed 5 eye 6;", 2, 17);
        bad("roller 5 speed 5; way 50;", 2, 18);
        bad("way 50; way 50; roller 5 speed 5;", 2, 8);
        bad("eye 5; way 50;", 2, 7);
        bad("turn 50 hold 1 back 5 rest 1;", 2, 8);
        bad("turn 50 back 5 rest 1 hold 1;", 2, 15);
        bad("turn 50 back 5 hold 1 speed 1;", 2, 22);
        bad("turn 50 back 5 hold 1;", 2, 21);
        bad("speed 5;", 2, 0);
        bad("eyeroller 5;", 2, 0);
        bad("roller 5 speed 5; damp;", 2, 22);
    }

    private static void bounds() {
        bad("way 39;", 3, 4);
        bad("way 301;", 3, 4);
        bad("roller 0 speed 1;", 3, 7);
        bad("roller 100 speed 1;", 3, 7);
        bad("way 40; roller 40 speed 1;", 3, 15);
        bad("roller 5 speed 0;", 3, 15);
        bad("roller 5 speed 10;", 3, 15);
        bad("roller 5 speed 1; roller 5 speed 1;", 3, 25);
        bad("roller 5 speed 1; roller 4 speed 1;", 3, 25);
        bad("eye 0;", 3, 4);
        bad("eye 101;", 3, 4);
        bad("eye 7; eye 7;", 3, 11);
        bad("eye 7; roller 5 speed 1; eye 6;", 3, 29);
        bad("turn 1 back 1 hold 1 rest 1;", 3, 5);
        bad("turn 100 back 1 hold 1 rest 1;", 3, 5);
        bad("turn 50 back 0 hold 1 rest 1;", 3, 13);
        bad("turn 50 back 50 hold 1 rest 1;", 3, 13);
        bad("turn 50 back 49 hold 0 rest 1;", 3, 21);
        bad("turn 50 back 49 hold 4 rest 1;", 3, 21);
        bad("turn 50 back 49 hold 3 rest 0;", 3, 28);
        bad("turn 50 back 49 hold 3 rest 21;", 3, 28);
        bad("damp 91;", 3, 5);
    }

    private static String rollers(int n) {
        StringBuilder s = new StringBuilder();
        for (int i = 1; i <= n; i++) {
            s.append("roller ").append(i).append(" speed 1;");
        }
        return s.toString();
    }

    private static String eyes(int n) {
        StringBuilder s = new StringBuilder();
        for (int i = 1; i <= n; i++) {
            s.append("eye ").append(i).append(";");
        }
        return s.toString();
    }

    private static void doublesAndTooMany() {
        bad("damp 5; damp 5;", 4, 8);
        bad("damp 0; damp 0;", 4, 8);
        bad("turn 50 back 5 hold 1 rest 1; turn;", 4, 30);
        bad("damp 5; eye 4; damp x;", 4, 15);
        good(rollers(10), 10);
        bad(rollers(11), 5, rollers(10).length());
        good(rollers(1) + eyes(19), 20);
        bad(eyes(20), 5, eyes(19).length());
        bad(eyes(19) + "eye", 5, eyes(19).length());
        bad(rollers(10) + "eye 1; roller !", 5, rollers(10).length() + 7);
    }

    private static void whatStaysAndGoes() {
        PaperWay x = Due.way("way 50; roller 10 speed 5; roller 30 speed 5; eye 20; turn 40 back 5 hold 1 rest 1;");
        x.set(0, 0, 100);
        x.set(1, 1, 5);
        x.corner(33, true);
        x.saw(0, 3, 9);
        x.lay(20, false);
        x.tick(4);
        x.page(1, true);
        x.out(0);
        x.row(0, 0, 5);
        D.due("a faulty text", Due.text(x, "eye 1;"), -12);
        D.due("the way stays", x.count(0) * 100 + x.count(1) * 10 + x.count(7), 211);
        D.due("the sheets stay", x.count(4), 1);
        D.due("NOW stays", x.count(3), 4);
        D.due("wear stays", x.set(0, 0, 100), 100);
        D.due("eyes stay", x.count(8), 1);
        D.due("text below 0 leaves the fault", x.text(-1), -2);
        D.due("the fault", x.fault(0), 2);
        D.due("a good text", Due.text(x, "roller 10 speed 5; eye 20;"), 2);
        D.due("no fault", x.fault(0), 0);
        D.due("no place", x.fault(1), -1);
        D.due("no sheets", x.count(4), 0);
        D.due("no sheet 0", x.sheet(0, 0), -2);
        D.due("no wear", x.set(0, 0, 0), 0);
        D.due("no beat", x.set(0, 1, 0), 0);
        D.due("no roller 1", x.set(1, 0, 0), -2);
        D.due("no corners", x.count(7), 0);
        D.due("nothing observed", x.count(8), 0);
        D.due("NOW 0", x.count(3), 0);
        D.due("LENGTH 100", x.count(2), 100);
        D.due("no passing", x.passing(0, 0, 0), -2);
        D.due("sees nothing", x.sees(0), 0);
        D.due("no turn", x.lay(20, true), -5);
        D.due("the page stays", x.count(9), 1);
        D.due("the stack stays", x.count(11), 1);
        D.due("the row stays", x.save(0), 1);
        D.due("a sheet again", x.lay(20, false), 0);
    }

    /** Nothing of an earlier text is left in a later one. */
    private static void oneTextAfterAnother() {
        PaperWay x = Due.way("way 60; roller 10 speed 5; roller 20 speed 5; eye 5; eye 8; damp 90;"
                + "turn 40 back 5 hold 3 rest 9;");
        for (int i = 0; i < 3; i++) {
            D.due("a plain text", Due.text(x, "roller 10 speed 5; eye 7;"), 2);
            D.due("ROLLERS", x.count(0), 1);
            D.due("EYES", x.count(1), 1);
            D.due("LENGTH", x.count(2), 100);
            D.due("no turn", x.lay(20, true), -5);
            x.lay(20, false);
            x.tick(1);
            D.due("no damp", x.sheet(0, 1), 150);
        }
        D.due("a faulty one", Due.text(x, "way 60; eye 5; eye 8; damp 90; turn 40 back 5 hold 3 rest 9; roller"), -12);
        D.due("a damp again", Due.text(x, "roller 10 speed 5; damp 0; turn 9 back 1 hold 1 rest 1; eye 1;"), 4);
        D.due("EYES", x.count(1), 1);
    }

    /** Sheets of an earlier text play no part, wherever they are. */
    private static void sheetsGoWithTheirText() {
        String way = "roller 10 speed 5; roller 15 speed 5; roller 20 speed 5; turn 12 back 5 hold 1 rest 20;";
        PaperWay x = Due.way(way);
        x.lay(10, true);
        x.tick(3);
        D.due("in the POCKET", x.count(5), 1);
        x.lay(20, false);
        x.corner(12, true);
        D.due("ticks to a JAM", x.tick(99), 6);
        D.due("JAMMED", x.count(6), 1);
        D.due("the same text anew", Due.text(x, way), 4);
        D.due("none JAMMED", x.count(6), -1);
        D.due("none in the POCKET", x.count(5), 0);
        D.due("none to clear", x.clear(false), -5);
        D.due("lay", x.lay(20, false), 0);
        D.due("lay", x.sheet(0, 4), 0);
        D.due("ticks", x.tick(30), 11);
        D.due("none came back", x.count(4), 1);
        D.due("JAMMED, no roller under it", x.count(6), 0);
        D.due("STOOD", x.sheet(0, 4), 5);
        D.due("the same text anew", Due.text(x, way), 4);
        D.due("lay", x.lay(20, true), 0);
        D.due("STOOD anew", x.sheet(0, 4), 0);
        D.due("ticks", x.tick(7), 7);
        D.due("the POCKET takes it", x.sheet(0, 0), 1);
    }

    private static void fullTapes() {
        StringBuilder s = new StringBuilder("roller 10 speed 5;");
        while (s.length() < 398) {
            s.append(' ');
        }
        PaperWay x = new PaperWay();
        D.due("400 bytes", Due.text(x, s + "  "), 1);
        D.due("400 bytes and a fault at the last", Due.text(x, s + " ;"), -12);
        D.due("its place", x.fault(1), 399);
        D.due("no end in 400 bytes", Due.text(x, s + "ey"), -12);
        D.due("its place", x.fault(1), 398);
        StringBuilder t = new StringBuilder();
        StringBuilder u = new StringBuilder();
        for (int i = 0; i < 200; i++) {
            t.append(";;");
            u.append("1;");
        }
        D.due("400 signs", Due.text(x, t.toString()), -12);
        D.due("400 numbers and signs", Due.text(x, u.toString()), -12);
        D.due("the first is at fault", x.fault(1), 0);
        StringBuilder v = new StringBuilder("roller 1 speed 1;eye 1;");
        while (v.length() < 400) {
            v.append("way ");
        }
        v.setLength(400);
        D.due("words to the end", Due.text(x, v.toString()), -12);
        D.due("the first of them is at fault", x.fault(1), 23);
    }

    private static void faultCall() {
        PaperWay x = new PaperWay();
        Due.text(x, "way 50;");
        D.due("fault(0)", x.fault(0), 2);
        D.due("fault(1)", x.fault(1), 7);
        D.due("fault(2)", x.fault(2), -1);
        D.due("fault(-1)", x.fault(-1), -1);
        D.due("text(0) reads, too", x.text(0), -12);
        D.due("fault(1)", x.fault(1), 0);
    }

    private static void counts() {
        PaperWay x = Due.way("way 60; roller 10 speed 5; roller 30 speed 5; eye 20; eye 21; eye 22;"
                + "turn 28 back 5 hold 2 rest 20;");
        int[] due = {2, 3, 60, 0, 0, 0, -1, 0, 0, 0, 1, 0, 0};
        for (int what = 0; what < 13; what++) {
            D.due("count(" + what + ")", x.count(what), due[what]);
        }
        D.due("count(13)", x.count(13), -2);
        D.due("count(-1)", x.count(-1), -2);
        D.due("count(least)", x.count(Integer.MIN_VALUE), -2);
        x.saw(2, -1, -1);
        x.saw(2, 5, 7);
        x.page(0, true);
        x.page(1, true);
        x.page(1, true);
        x.copies(7);
        x.out(2);
        x.out(2);
        x.feed(1, 2, 3, 4, 5);
        x.lay(20, true);
        D.due("7 ticks", x.tick(7), 7);
        D.due("not yet in the POCKET", x.count(5), 0);
        x.tick(1);
        D.due("in the POCKET", x.count(5), 1);
        x.corner(20, true);
        x.lay(10, false);
        D.due("ticks until it is JAMMED", x.tick(10), 7);
        int[] after = {2, 3, 60, 15, 2, 1, 1, 1, 1, 3, 7, 2, 20};
        for (int what = 0; what < 13; what++) {
            D.due("count(" + what + ") later", x.count(what), after[what]);
        }
    }
}
