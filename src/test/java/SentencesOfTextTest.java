/** Promises 1 to 4, sentence by sentence: the new object, the tape, the text of a way, its faults (terms 1). */
public final class SentencesOfTextTest {
    private static final Sentences S = new Sentences("SentencesOfTextTest");
    private static final int LEAST = Integer.MIN_VALUE;
    private static final int MOST = Integer.MAX_VALUE;

    public static void main(String[] args) {
        whatItIs();
        newObject();
        feed();
        text();
        fault();
        grammar();
        tokens();
        boundsOfWayAndRoller();
        boundsOfEye();
        boundsOfTurnAndDamp();
        numbersOfLines();
        noToken();
        misplaced();
        theEnd();
        outOfBounds();
        seconds();
        oneTooMany();
        firstAndLeast();
        withoutFault();
        withFault();
        S.end(1, 4);
    }

    private static void whatItIs() {
        S.frame("What it is", "An object is used for at most 512 calls after it has been made");
        PaperWay x = new PaperWay();
        for (int i = 1; i <= 510; i++) {
            S.due("call " + i, x.copies(1 + i % 40), i == 1 ? 1 : 1 + (i - 1) % 40);
        }
        S.due("call 511", x.feed(1, 2, 3, 4, 5), 20);
        S.due("call 512", x.count(10), 1 + 510 % 40);
        S.frame("Terms", "The constants: `NONE = -1`: There is none.");
        S.due("NONE", PaperWay.NONE, -1);
    }

    private static void newObject() {
        S.promise(1, "`PaperWay()`: As at first.");
        PaperWay x = new PaperWay();
        int[] counts = {0, 0, 100, 0, 0, 0, -1, 0, 0, 0, 1, 0, 0};
        for (int what = 0; what < counts.length; what++) {
            S.due("count(" + what + ")", x.count(what), counts[what]);
        }
        S.due("no FAULT", x.fault(0), 0);
        S.due("no place of a FAULT", x.fault(1), -1);
        S.due("no ROLLER", x.set(0, 0, 0), -2);
        S.due("no EYE", x.sees(0), -2);
        S.due("no SHEET", x.sheet(0, 0), -2);
        S.due("no ROW", x.save(0), -6);
        S.due("no IMAGE", x.restore(0), false);
        S.due("NOW 0, and on", x.tick(1) * 10 + x.count(3), 11);
        PaperWay y = new PaperWay();
        x.copies(7);
        S.due("another object is its own", y.count(10), 1);
        S.terms(1, "(as at first, with LENGTH 100 and no ROLLERS, EYES)");
        S.due("LENGTH", y.count(2), 100);
        S.due("a CORNER at LENGTH", y.corner(100, true), true);
        S.due("a CORNER beyond", y.corner(101, true), false);
        S.due("each of 100 steps is without CREASES", y.crease(20, -1, -1, -1, -1), 100);
    }

    private static void feed() {
        S.promise(2, "Twenty bytes come behind those on THE TAPE");
        PaperWay x = new PaperWay();
        S.due("the first", Due.feed(x, Due.bytes("roller 10 speed 5;ey"), 20), 20);
        S.due("behind them", Due.feed(x, Due.bytes("e 20;             !!"), 20), 40);
        S.due("read in order", x.text(38), 2);
        S.due("EYES", x.count(1), 1);
        S.promise(2, "the highest of each int first");
        int[] ints = {0x726f6c6c, 0x65722031, 0x30207370, 0x65656420, 0x353b2020};
        S.due("roller 10 speed 5;", x.feed(ints[0], ints[1], ints[2], ints[3], ints[4]), 20);
        S.due("a WAY", x.text(20), 1);
        for (int i = 0; i < 20; i++) {
            int[] five = {0x20202020, 0x20202020, 0x20202020, 0x20202020, 0x20202020};
            int shift = 24 - i % 4 * 8;
            five[i / 4] = five[i / 4] & ~(255 << shift) | 200 << shift;
            x.feed(five[0], five[1], five[2], five[3], five[4]);
            S.due("byte " + i, x.text(20) * 100 + x.fault(1), -1100 + i);
        }
        S.promise(2, "how many it has");
        for (int i = 1; i <= 20; i++) {
            S.due("feed " + i, x.feed(0x3b3b3b3b, LEAST, MOST, -1, 0), 20 * i);
            S.due("count(12)", x.count(12), 20 * i);
        }
        S.promise(2, "NONE: it would have more than 400");
        S.due("a 21st", x.feed(0, 0, 0, 0, 0), -1);
        S.due("and a 22nd", x.feed(1, 1, 1, 1, 1), -1);
        S.due("THE TAPE has 400 still", x.count(12), 400);
        S.due("it reads as it was", x.text(400), -12);
        S.due("from the first byte on", x.fault(1), 0);
        S.due("it is empty: room again", x.feed(0, 0, 0, 0, 0), 20);
    }

    private static void text() {
        S.promise(3, "The first n bytes of THE TAPE (which is empty then) are the WAY");
        PaperWay x = new PaperWay();
        String s = "roller 10 speed 5;eye 20;eye 30;roller 40 speed 4;";
        int[] n = {18, 25, 32, 50};
        for (int k = 0; k < n.length; k++) {
            Due.feed(x, Due.bytes(s), s.length());
            S.due("text(" + n[k] + ")", x.text(n[k]), k + 1);
            S.due("THE TAPE is empty", x.count(12), 0);
            S.due("nothing is left to read", x.text(1), -2);
        }
        Due.feed(x, Due.bytes(s), s.length());
        S.due("with a FAULT", x.text(19), -12);
        S.due("THE TAPE is empty, too", x.count(12), 0);
        Due.feed(x, Due.bytes(s), s.length());
        S.due("no bytes", x.text(0), -12);
        S.due("THE TAPE is empty, too", x.count(12), 0);
        cutWithinTokens(x);
        S.promise(3, "how many LINES (way, too)");
        S.due("one", Due.text(x, "roller 10 speed 5;"), 1);
        S.due("way, too", Due.text(x, "way 50;roller 10 speed 5;"), 2);
        S.due("each kind", Due.text(x, "way 50;damp 1;eye 7;turn 9 back 1 hold 1 rest 1;roller 10 speed 5;"), 5);
        S.promise(3, "-2: n is below 0 or above what there is (THE TAPE stays)");
        Due.feed(x, Due.bytes("roller 10 speed 5;  "), 20);
        int[] never = {-1, LEAST, 21, 400, MOST};
        for (int v : never) {
            S.due("text(" + v + ")", x.text(v), -2);
            S.due("THE TAPE stays", x.count(12), 20);
            S.due("the WAY stays", x.count(2), 50);
            S.due("no FAULT", x.fault(0), 0);
        }
        S.due("all there is", x.text(20), 1);
        S.due("above an empty one", x.text(1), -2);
        S.promise(3, "-10 less the FAULT");
        S.due("1", Due.text(x, "?"), -11);
        S.due("2", Due.text(x, "way"), -12);
        S.due("3", Due.text(x, "way 39;"), -13);
        S.due("4", Due.text(x, "damp 1;damp 1;"), -14);
        S.due("5", Due.text(x, lines("eye ", "", 20)), -15);
        S.terms(1, "A WAY is a TEXT of at most 400 bytes");
        StringBuilder t = new StringBuilder("roller 10 speed 5;");
        while (t.length() < 394) {
            t.append(t.length() % 2 == 0 ? '\n' : ' ');
        }
        S.due("400 bytes", Due.text(x, t + "eye 1;"), 2);
        S.due("the last counts", Due.text(x, t + "eye 1?"), -11);
        S.due("its place", x.fault(1), 399);
        for (String token : new String[] {";", "a;", "1;", ";a1"}) {
            StringBuilder all = new StringBuilder();
            while (all.length() < 400) {
                all.append(token);
            }
            all.setLength(400);
            S.due("400 bytes of " + token, Due.text(x, all.toString()), -12);
            S.due("the first of them", x.fault(1), 0);
        }
    }

    /** What THE TAPE has behind the first n bytes makes no TOKEN longer. */
    private static void cutWithinTokens(PaperWay x) {
        String[] tapes = {"roller 9999", "roller 50 speed 55;", "roller 50 speed 5;eye 60;", "roller 50 speed 5;damp 0;",
            "roller 50 speed 5;damp 1234;"};
        int[] n = {10, 17, 20, 21, 26};
        int[] kind = {3, 2, 2, 2, 3};
        int[] place = {7, 17, 18, 18, 23};
        for (int k = 0; k < n.length; k++) {
            Due.feed(x, Due.bytes(tapes[k]), tapes[k].length());
            S.due("text(" + n[k] + ") of " + tapes[k], x.text(n[k]), -10 - kind[k]);
            S.due("its FAULT", x.fault(0), kind[k]);
            S.due("its place", x.fault(1), place[k]);
        }
        // a TAPE that is full, with a TOKEN up to its last byte
        StringBuilder t = new StringBuilder("roller 50 speed 5;");
        while (t.length() < 398) {
            t.append(' ');
        }
        int[] lasts = {-12, -12, -11, 1};
        String[] ends = {"ey", "12", " ?", "  "};
        int[] places = {398, 398, 399, -1};
        for (int k = 0; k < ends.length; k++) {
            Due.feed(x, Due.bytes(t + ends[k]), 400);
            S.due("400 bytes, the last " + ends[k], x.text(400), lasts[k]);
            S.due("its place", x.fault(1), places[k]);
        }
    }

    private static void fault() {
        S.promise(4, "Of the latest text() that read bytes, what 0: its FAULT (0), 1: its place (NONE)");
        PaperWay x = new PaperWay();
        S.due("ahead of any", x.fault(0) * 100 + x.fault(1), -1);
        Due.text(x, "way 39;");
        S.due("FAULT", x.fault(0), 3);
        S.due("place", x.fault(1), 4);
        x.text(-1);
        x.text(1);
        S.due("a refused text() leaves it", x.fault(0) * 100 + x.fault(1), 304);
        x.feed(0, 0, 0, 0, 0);
        S.due("feed leaves it", x.fault(0) * 100 + x.fault(1), 304);
        x.text(0);
        S.due("an empty one", x.fault(0) * 100 + x.fault(1), 200);
        Due.text(x, "roller 10 speed 5;");
        S.due("none", x.fault(0), 0);
        S.due("no place", x.fault(1), -1);
        S.promise(4, "NONE for others");
        Due.text(x, "way 39;");
        int[] others = {2, 3, -1, LEAST, MOST};
        for (int what : others) {
            S.due("fault(" + what + ")", x.fault(what), -1);
        }
    }

    private static void good(String s, int lines) {
        PaperWay x = new PaperWay();
        S.due("text " + s, Due.text(x, s), lines);
        S.due("fault(0) of " + s, x.fault(0), 0);
        S.due("fault(1) of " + s, x.fault(1), -1);
    }

    /** The sign ^ stands ahead of the place of the fault. */
    private static void bad(int kind, String marked) {
        PaperWay x = new PaperWay();
        int place = marked.indexOf('^');
        String s = marked.substring(0, place) + marked.substring(place + 1);
        S.due("text " + s, Due.text(x, s), -10 - kind);
        S.due("fault(0) of " + s, x.fault(0), kind);
        S.due("fault(1) of " + s, x.fault(1), place);
        S.due("no WAY of " + s, x.count(0), 0);
    }

    private static String lines(String ahead, String behind, int n) {
        StringBuilder s = new StringBuilder();
        for (int i = 1; i <= n; i++) {
            s.append(ahead).append(i).append(behind).append(";");
        }
        return s.toString();
    }

    private static void grammar() {
        S.terms(1, "TEXT: [ way N ; ] { LINE ; }");
        good("roller 10 speed 5;", 1);
        good("way 50;roller 10 speed 5;", 2);
        good("roller 10 speed 5;eye 5;eye 6;roller 20 speed 5;", 4);
        bad(2, "^;roller 10 speed 5;");
        bad(2, "way 50;^;roller 10 speed 5;");
        bad(2, "way 50 ^roller 10 speed 5;");
        bad(2, "roller 10 speed 5 ^eye 5;");
        S.terms(1, "LINE: roller N speed N | eye N | turn N back N hold N rest N | damp N");
        good("damp 5;turn 20 back 5 hold 2 rest 3;eye 5;roller 10 speed 5;", 4);
        bad(2, "roller ^speed 10;");
        bad(2, "roller 10 ^5;");
        bad(2, "roller 10 ^back 5;");
        bad(2, "roller 10 speed ^;");
        bad(2, "roller 10 speed 5 ^6;");
        bad(2, "roller 10 speed 5 ^abc");
        bad(2, "roller ^abc speed 5;");
        bad(2, "roller 10 ^abc 5;");
        bad(2, "roller ^;10 speed 5;");
        bad(2, "roller 10 ^;speed 5;");
        bad(2, "eye 5 ^abc");
        bad(2, "eye ^abc;");
        bad(2, "damp 5 ^abc");
        bad(2, "eye ^;");
        bad(2, "eye 5 ^6;");
        bad(2, "turn ^back 5 hold 2 rest 3;");
        bad(2, "turn 20 ^5 hold 2 rest 3;");
        bad(2, "turn 20 ^hold 2 back 5 rest 3;");
        bad(2, "turn 20 back ^hold 2 rest 3;");
        bad(2, "turn 20 back 5 ^rest 3 hold 2;");
        bad(2, "turn 20 back 5 ^;");
        bad(2, "turn 20 back 5 hold ^rest 3;");
        bad(2, "turn 20 back 5 hold 2 ^;");
        bad(2, "turn 20 back 5 hold 2 rest ^;");
        bad(2, "turn 20 back 5 hold 2 rest 3 ^4;");
        bad(2, "damp ^;");
        bad(2, "damp 5 ^6;");
        S.terms(1, "of roller one and more");
        bad(2, "^");
        bad(2, "way 50;^");
        bad(2, "eye 5;turn 20 back 5 hold 2 rest 3;damp 5;^");
        good("eye 5;turn 20 back 5 hold 2 rest 3;damp 5;roller 10 speed 5;", 4);
    }

    private static void tokens() {
        S.terms(1, "TOKENS, as long as they go on, between them blanks (10, 32)");
        good("way50;roller10speed5;eye5;damp5;turn20back5hold2rest3;", 5);
        good("\n \n roller\n\n10 \n speed 5\n;\n", 1);
        bad(2, "^rollers 10 speed 5;");
        bad(2, "^eyeeye 5;");
        bad(2, "^ey e 5;");
        bad(2, "eye 1 ^0;");
        bad(3, "eye ^101;");
        for (int blank : new int[] {0, 9, 11, 13, 31, 33, 160, 138}) {
            bad(1, "eye^" + (char) blank + "5;roller 10 speed 5;");
        }
        S.terms(1, "words (small letters), N (1 to 3 digits), the sign ;");
        for (String word : new String[] {"way", "roller", "speed", "eye", "turn", "back", "hold", "rest", "damp"}) {
            good(word.equals("way") ? "way 50;roller 10 speed 5;" : "damp 0;roller 10 speed 5;", 2);
            bad(1, "^" + word.toUpperCase() + " 5;");
            bad(2, "eye 5;^" + word + "x 5;");
            bad(2, "eye 5;^x" + word + " 5;");
            bad(2, "eye 5;^" + word.substring(1) + " 5;");
            bad(2, "eye 5;^" + word.substring(0, word.length() - 1) + " 5;");
            for (int i = 0; i < word.length(); i++) {
                bad(2, "eye 5;^" + word.substring(0, i) + "q" + word.substring(i + 1) + " 5;");
            }
        }
        good("eye 5;roller 10 speed 5;", 2);
        good("eye 05;roller 010 speed 5;", 2);
        good("eye 005;roller 010 speed 005;", 2);
        for (char letter = 'a'; letter <= 'z'; letter++) {
            bad(2, "^" + letter + " 5;");
            bad(2, "eye 5;^" + letter + letter + letter + letter);
        }
        for (char digit = '0'; digit <= '9'; digit++) {
            bad(2, "^" + digit + ";");
        }
        bad(1, "eye ^0005;");
        bad(1, "eye ^1000;");
        bad(1, "eye 5^:");
        bad(1, "eye 5^,");
        bad(1, "eye ^-5;");
        bad(1, "eye ^+5;");
    }

    private static void boundsOfWayAndRoller() {
        S.terms(1, "way: LENGTH, 40 to 300 steps (100 without)");
        bad(3, "way ^39;roller 10 speed 5;");
        bad(3, "way ^301;roller 10 speed 5;");
        bad(3, "way ^0;roller 10 speed 5;");
        bad(3, "way ^999;roller 10 speed 5;");
        good("way 40;roller 10 speed 5;", 2);
        good("way 300;roller 10 speed 5;", 2);
        S.due("40", Due.way("way 40;roller 10 speed 5;").count(2), 40);
        S.due("300", Due.way("way 300;roller 10 speed 5;").count(2), 300);
        S.due("without", Due.way("roller 10 speed 5;").count(2), 100);
        S.terms(1, "roller: a place, 1 to LENGTH less 1, above that of the ROLLER ahead; speed 1 to 9");
        good("roller 1 speed 5;", 1);
        bad(3, "roller ^0 speed 5;");
        good("roller 99 speed 5;", 1);
        bad(3, "roller ^100 speed 5;");
        good("way 40;roller 39 speed 5;", 2);
        bad(3, "way 40;roller ^40 speed 5;");
        good("way 300;roller 299 speed 5;", 2);
        bad(3, "way 300;roller ^300 speed 5;");
        good("roller 10 speed 5;roller 11 speed 5;", 2);
        bad(3, "roller 10 speed 5;roller ^10 speed 5;");
        bad(3, "roller 10 speed 5;roller ^9 speed 5;");
        bad(3, "roller 10 speed 5;eye 90;roller ^10 speed 5;");
        bad(3, "roller 99 speed 5;roller ^100 speed 5;");
        bad(3, "roller 10 speed 5;roller 20 speed 5;roller ^15 speed 5;");
        good("eye 50;roller 10 speed 5;", 2);
        good("roller 10 speed 1;", 1);
        good("roller 10 speed 9;", 1);
        bad(3, "roller 10 speed ^0;");
        bad(3, "roller 10 speed ^10;");
    }

    private static void boundsOfEye() {
        S.terms(1, "eye: a place, 1 to LENGTH, above that of the EYE ahead");
        good("eye 1;roller 10 speed 5;", 2);
        bad(3, "eye ^0;roller 10 speed 5;");
        good("eye 100;roller 10 speed 5;", 2);
        bad(3, "eye ^101;roller 10 speed 5;");
        good("way 40;eye 40;roller 10 speed 5;", 3);
        bad(3, "way 40;eye ^41;roller 10 speed 5;");
        good("way 300;eye 300;roller 10 speed 5;", 3);
        bad(3, "way 300;eye ^301;roller 10 speed 5;");
        good("eye 5;eye 6;roller 10 speed 5;", 3);
        bad(3, "eye 5;eye ^5;roller 10 speed 5;");
        bad(3, "eye 5;eye ^4;roller 10 speed 5;");
        bad(3, "eye 5;eye 9;eye ^7;roller 10 speed 5;");
        bad(3, "eye 100;eye ^101;roller 10 speed 5;");
        good("roller 10 speed 5;eye 3;roller 20 speed 5;eye 4;", 4);
    }

    private static void boundsOfTurnAndDamp() {
        S.terms(1, "turn: a place, 2 to LENGTH less 1; back 1 to that less 1; hold 1 to 3; rest 1 to 20");
        good("turn 2 back 1 hold 1 rest 1;roller 10 speed 5;", 2);
        bad(3, "turn ^1 back 1 hold 1 rest 1;roller 10 speed 5;");
        bad(3, "turn ^0 back 1 hold 1 rest 1;roller 10 speed 5;");
        good("turn 99 back 98 hold 3 rest 20;roller 10 speed 5;", 2);
        bad(3, "turn ^100 back 98 hold 3 rest 20;roller 10 speed 5;");
        good("way 40;turn 39 back 38 hold 3 rest 20;roller 10 speed 5;", 3);
        bad(3, "way 40;turn ^40 back 38 hold 3 rest 20;roller 10 speed 5;");
        bad(3, "turn 50 back ^0 hold 1 rest 1;roller 10 speed 5;");
        good("turn 50 back 1 hold 1 rest 1;roller 10 speed 5;", 2);
        good("turn 50 back 49 hold 1 rest 1;roller 10 speed 5;", 2);
        bad(3, "turn 50 back ^50 hold 1 rest 1;roller 10 speed 5;");
        bad(3, "turn 2 back ^2 hold 1 rest 1;roller 10 speed 5;");
        bad(3, "turn 50 back 5 hold ^0 rest 1;roller 10 speed 5;");
        bad(3, "turn 50 back 5 hold ^4 rest 1;roller 10 speed 5;");
        bad(3, "turn 50 back 5 hold 1 rest ^0;roller 10 speed 5;");
        bad(3, "turn 50 back 5 hold 1 rest ^21;roller 10 speed 5;");
        S.terms(1, "damp 0 to 90 (0 without)");
        good("damp 0;roller 10 speed 5;", 2);
        good("damp 90;roller 10 speed 5;", 2);
        bad(3, "damp ^91;roller 10 speed 5;");
        bad(3, "damp ^999;roller 10 speed 5;");
        S.due("without: 50 a tick", headOf(""), 150);
        S.due("damp 20: 50 * 980 / 1000", headOf("damp 20;"), 149);
        S.due("damp 90: 50 * 910 / 1000", headOf("damp 90;"), 145);
    }

    private static int headOf(String damp) {
        PaperWay x = Due.way(damp + "roller 10 speed 5;");
        x.lay(20, false);
        x.tick(1);
        return x.sheet(0, 1);
    }

    private static void numbersOfLines() {
        S.terms(1, "ROLLERS, at most 10, EYES, at most 19, numbered as they come");
        PaperWay x = Due.way(lines("roller ", " speed 5", 10));
        S.due("10 ROLLERS", x.count(0), 10);
        S.due("ROLLER 9", x.set(9, 0, 0), 0);
        S.due("no ROLLER 10", x.set(10, 0, 0), -2);
        PaperWay y = Due.way(lines("eye ", "", 19) + "roller 30 speed 5;");
        S.due("19 EYES", y.count(1), 19);
        S.due("EYE 18", y.sees(18), 0);
        S.due("no EYE 19", y.sees(19), -2);
        PaperWay z = Due.way("eye 15;roller 10 speed 1;eye 35;roller 20 speed 7;");
        z.set(1, 0, 1000);
        z.lay(10, false);
        z.tick(5);
        S.due("EYE 0 is the first told", z.sees(0) * 10 + z.sees(1), 10);
        S.due("ROLLER 0, too", z.sheet(0, 1), 150);
        z.tick(9);
        S.due("ROLLER 1 is the second", z.sheet(0, 1), 200);
        S.due("both kinds are at their most", Due.way(lines("eye ", "", 19) + lines("roller ", " speed 5", 10)).count(0),
                10);
    }

    private static void noToken() {
        S.terms(1, "1 no TOKEN begins so (4 digits and more: at their first)");
        for (int sign = 0; sign < 256; sign++) {
            boolean begins = sign == 10 || sign == 32 || sign == ';' || sign >= '0' && sign <= '9'
                    || sign >= 'a' && sign <= 'z';
            if (!begins) {
                bad(1, "roller 10 speed 5;^" + (char) sign);
            }
        }
        bad(1, "eye ^1234;");
        bad(1, "eye ^12345678901234567890;");
        bad(1, "eye ^0000;");
        bad(1, "^1000 eye;");
        bad(1, "roller 10 speed ^5555;");
        // also where it could not stand, be it a number or not
        bad(1, "eye 5 ^1234;");
        bad(1, "eye ^?5;");
        bad(1, "way 50^.5;");
    }

    private static void misplaced() {
        S.terms(1, "2 it can't stand there (way elsewhere than at the beginning, too;");
        good("  way 50;roller 10 speed 5;", 2);
        bad(2, "roller 10 speed 5;^way 50;");
        bad(2, "way 50;^way 50;roller 10 speed 5;");
        bad(2, "eye 5;^way 50;roller 10 speed 5;");
        bad(2, "way ^way 50;");
        bad(2, "^speed 5;");
        bad(2, "^back 5;");
        bad(2, "^hold 5;");
        bad(2, "^rest 5;");
        bad(2, "^5;");
        bad(2, "^;");
        bad(2, "^abc;");
        bad(2, "roller 10 speed 5;^5;");
        bad(2, "roller ^;");
        bad(2, "roller ^roller 10 speed 5;");
    }

    private static void theEnd() {
        S.terms(1, "the end, at the text's length: too early, or without a roller)");
        String[] early = {"way", "way 50", "roller", "roller 10", "roller 10 speed", "roller 10 speed 5", "eye", "eye 5",
            "turn", "turn 20", "turn 20 back", "turn 20 back 5", "turn 20 back 5 hold", "turn 20 back 5 hold 2",
            "turn 20 back 5 hold 2 rest", "turn 20 back 5 hold 2 rest 3", "damp", "damp 5"};
        for (String s : early) {
            bad(2, s + "^");
            bad(2, s + " \n^");
            if (!s.startsWith("way")) {
                bad(2, "roller 1 speed 5;".substring(0, s.startsWith("roller") ? 0 : 17) + s + "^");
            }
        }
        bad(2, "^");
        bad(2, "   ^");
        bad(2, "\n^");
        bad(2, "way 50;  ^");
        bad(2, "eye 5;^");
        good("roller 10 speed 5;  ", 1);
    }

    private static void outOfBounds() {
        S.terms(1, "3 an N out of its bounds");
        bad(3, "way ^000;");
        bad(3, "roller ^999 speed 5;");
        bad(3, "roller 10 speed ^00;");
        bad(3, "eye ^999;");
        bad(3, "turn ^999 back 5 hold 2 rest 3;");
        bad(3, "turn 20 back ^999 hold 2 rest 3;");
        bad(3, "turn 20 back 5 hold ^999 rest 3;");
        bad(3, "turn 20 back 5 hold 2 rest ^999;");
    }

    private static void seconds() {
        S.terms(1, "4 the first TOKEN of a second turn, damp");
        String turn = "turn 20 back 5 hold 2 rest 3;";
        bad(4, turn + "^" + turn);
        bad(4, turn + "eye 5;^turn");
        bad(4, turn + "^turn 999;");
        bad(4, "damp 0;^damp 0;");
        bad(4, "damp 5;eye 5;" + turn + "^damp");
        bad(4, "roller 10 speed 5;damp 5;^damp ?");
        good(turn + "damp 5;roller 10 speed 5;", 3);
        good("damp 5;" + turn + "roller 10 speed 5;", 3);
        bad(4, turn + "damp 5;^" + turn);
    }

    private static void oneTooMany() {
        S.terms(1, "5 the first TOKEN of an 11th roller, a 20th eye");
        good(lines("roller ", " speed 5", 10), 10);
        bad(5, lines("roller ", " speed 5", 10) + "^roller 11 speed 5;");
        bad(5, lines("roller ", " speed 5", 10) + "^roller");
        bad(5, lines("roller ", " speed 5", 10) + "^roller 1 speed 0;");
        good(lines("eye ", "", 19) + "roller 30 speed 5;", 20);
        bad(5, lines("eye ", "", 19) + "^eye 20;");
        bad(5, lines("eye ", "", 19) + "^eye");
        bad(5, lines("eye ", "", 19) + "^eye ?");
        // ten of the one leave the other as it is
        good(lines("roller ", " speed 5", 10) + "eye 5;", 11);
        good(lines("eye ", "", 19) + lines("roller ", " speed 5", 10), 29);
    }

    private static void firstAndLeast() {
        S.terms(1, "FAULTS, the first along the text, of one TOKEN the least kind");
        bad(3, "eye ^0;eye ?;");
        bad(1, "eye ^?;eye 0;");
        bad(2, "eye ^;eye 0;");
        bad(3, "way ^39;way 50;");
        bad(4, "damp 5;^damp 91;");
        bad(3, "damp ^91;damp 5;");
        bad(5, lines("eye ", "", 19) + "^eye 0;");
        bad(3, "turn ^1 back ?;");
        // 4 digits where no number can stand, and out of bounds as well
        bad(1, "^4444;");
        bad(1, "way ^4444;");
        bad(1, "eye 5 ^4444;");
        bad(2, "eye 5 ^444;");
    }

    private static void withoutFault() {
        S.terms(1, "A TEXT without a FAULT is the WAY from now on: no SHEETS, no WEAR, BEATS, CORNERS, nothing OBSERVED,"
                + " NOW 0");
        String way = "roller 10 speed 5;roller 20 speed 5;eye 12;";
        PaperWay x = Due.way("way 60;" + way + "eye 50;");
        spoil(x);
        S.due("all is there", x.count(4) * 100 + x.count(7) * 10 + x.count(8), 211);
        S.due("the same text without way", Due.text(x, way), 3);
        S.due("LENGTH", x.count(2), 100);
        S.due("EYES", x.count(1), 1);
        S.due("no SHEETS", x.count(4), 0);
        S.due("none JAMMED", x.count(6), -1);
        S.due("no CORNERS", x.count(7), 0);
        S.due("nothing OBSERVED", x.count(8), 0);
        S.due("NOW", x.count(3), 0);
        S.due("WEAR", x.set(0, 0, 0), 0);
        S.due("BEAT", x.set(1, 1, 0), 0);
        S.due("EYES see nothing", x.sees(0), 0);
        S.due("no PASSINGS", x.passing(0, 0, 0), -2);
        S.due("nothing to forget", x.forget(), 0);
        S.due("the first SHEET again", x.lay(20, false), 0);
        S.due("it has not STOOD", x.sheet(0, 4), 0);
        S.due("three TICKS of 50", x.tick(3) * 1000 + x.sheet(0, 1), 3250);
        S.due("a turn and damp", Due.text(x, way + "turn 12 back 9 hold 3 rest 9;damp 90;"), 5);
        x.lay(10, true);
        x.tick(4);
        S.due("one in the POCKET", x.count(5), 1);
        for (int i = 0; i < 3; i++) {
            S.due("a plain one, " + i, Due.text(x, way), 3);
            S.due("none in the POCKET", x.count(5), 0);
            S.due("no turn", x.lay(20, true), -5);
            S.due("nothing is laid there", x.lay(20, false), 0);
            S.due("no damp", x.tick(1) * 1000 + x.sheet(0, 1), 1150);
            S.due("none comes back till the JAM", x.tick(20) * 10 + x.count(4), 101);
            S.due("a FAULT behind turn and damp", Due.text(x, "turn 12 back 9 hold 3 rest 9;damp 90;eye 5;eye 6;"), -12);
        }
        S.due("these again", Due.text(x, way + "turn 12 back 9 hold 3 rest 9;damp 90;"), 5);
        S.due("the turn is there", x.lay(20, true), 0);
    }

    private static void spoil(PaperWay x) {
        x.set(0, 0, 10);
        x.set(1, 1, 5);
        x.corner(30, true);
        x.saw(0, 3, 9);
        x.lay(10, false);
        x.tick(9);
        x.lay(10, false);
        x.tick(300);
    }

    private static void withFault() {
        S.terms(1, "A TEXT without a FAULT is the WAY from now on");
        PaperWay x = Due.way("way 60;roller 10 speed 5;roller 20 speed 5;eye 12;eye 50;");
        x.set(0, 0, 10);
        x.set(1, 1, 5);
        x.corner(30, true);
        x.saw(0, 3, 9);
        x.lay(10, false);
        x.tick(2);
        String[] faulty = {"", "?", "way 70;", "way 70;roller 10 speed 9;roller 20 speed 9;eye 7;damp 9", "damp 1;damp 1;"};
        for (String s : faulty) {
            S.due("a FAULT in " + s, Due.text(x, s) < -10, true);
            S.due("the WAY stays", x.count(0) * 10 + x.count(1), 22);
            S.due("LENGTH stays", x.count(2), 60);
            S.due("SHEETS stay", x.count(4), 1);
            S.due("CORNERS stay", x.count(7), 1);
            S.due("OBSERVED stays", x.count(8), 1);
            S.due("NOW stays", x.count(3), 2);
            S.due("WEAR stays", x.set(0, 0, 10), 10);
            S.due("BEAT stays", x.set(1, 1, 5), 5);
            S.due("PASSINGS stay", x.passing(0, 0, 0), 1);
        }
        x.tick(1);
        S.due("the old speed", x.sheet(0, 1), 247);
    }
}
