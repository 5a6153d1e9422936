/** Promises 30 to 38, sentence by sentence: service, rows of memory, images, counts (terms 5). */
public final class SentencesOfMemoryTest {
    private static final Sentences S = new Sentences("SentencesOfMemoryTest");
    private static final int LEAST = Integer.MIN_VALUE;
    private static final int MOST = Integer.MAX_VALUE;
    private static final long NOT_WRITTEN = -1000000L;

    public static void main(String[] args) {
        part();
        service();
        partsTold();
        ages();
        visits();
        leastOfAll();
        likeOnes();
        row();
        write();
        save();
        load();
        image();
        imageHolds();
        restore();
        count();
        refusals();
        S.end(30, 38);
    }

    private static void served(String when, PaperWay x, int n, int price, int total, int visits, int renewed) {
        String call = when + ": service(" + n + ", " + price + ", ";
        S.due(call + "0)", x.service(n, price, 0), total);
        S.due(call + "1)", x.service(n, price, 1), visits);
        S.due(call + "2)", x.service(n, price, 2), renewed);
    }

    private static PaperWay parts(int... costWeeksAge) {
        PaperWay x = new PaperWay();
        for (int i = 0; i < costWeeksAge.length; i += 3) {
            S.due("part", x.part(i / 3, costWeeksAge[i], costWeeksAge[i + 1], costWeeksAge[i + 2]), true);
        }
        return x;
    }

    private static void part() {
        S.promise(30, "COST, WEEKS, AGE of a part: true");
        PaperWay x = new PaperWay();
        S.due("part", x.part(4, 10, 3, 3), true);
        served("told", x, 1, 1, 11, 1, 1);
        S.due("told anew", x.part(4, 20, 3, 2), true);
        served("told anew", x, 2, 1, 21, 1, 1);
        S.terms(5, "of each ROLLER number 0 to 9 (there or not): COST of a new one (0 to 99; 0 at first), WEEKS it may run"
                + " (1 to 12; 12), AGE in weeks (0 to 12; 0)");
        int[][] can = {{0, 0, 1, 0}, {9, 99, 12, 12}, {0, 99, 1, 12}, {9, 0, 12, 0}};
        for (int[] c : can) {
            S.due("a part that can be", x.part(c[0], c[1], c[2], c[3]), true);
        }
        S.promise(30, "false: numbers that can't be");
        PaperWay y = new PaperWay();
        for (int v : new int[] {-1, 10, LEAST, MOST}) {
            S.due("ROLLER " + v, y.part(v, 5, 1, 12), false);
        }
        for (int v : new int[] {-1, 100, LEAST, MOST}) {
            S.due("COST " + v, y.part(0, v, 1, 12), false);
        }
        for (int v : new int[] {0, -1, 13, LEAST, MOST}) {
            S.due("WEEKS " + v, y.part(0, 5, v, 12), false);
        }
        for (int v : new int[] {-1, 13, LEAST, MOST}) {
            S.due("AGE " + v, y.part(0, 5, 1, v), false);
        }
        served("none is told by these", y, 10, 7, 0, 0, 0);
        y.part(0, 5, 1, 12);
        y.part(0, 6, 0, 0);
        served("refused: as it was", y, 1, 0, 5, 1, 1);
    }

    private static void service() {
        S.promise(31, "SERVICE for n weeks (1 to 10) at a price of a VISIT (0 to 999), what 0: the least in all, 1: the"
                + " weeks of VISITS (bits), 2: how many new parts");
        PaperWay x = parts(10, 1, 1);
        served("n 1", x, 1, 3, 13, 1, 1);
        served("n 10", x, 10, 3, 130, 1023, 10);
        served("price 0", x, 1, 0, 10, 1, 1);
        served("price 999", x, 10, 999, 10090, 1023, 10);
        S.promise(31, "NONE: others");
        for (int v : new int[] {0, -1, 11, LEAST, MOST}) {
            S.due("n " + v, x.service(v, 3, 0), -1);
        }
        for (int v : new int[] {-1, 1000, LEAST, MOST}) {
            S.due("price " + v, x.service(1, v, 0), -1);
        }
        for (int v : new int[] {-1, 3, LEAST, MOST}) {
            S.due("what " + v, x.service(1, 3, v), -1);
        }
        S.due("asked by turns", x.service(1, 3, 0) * 1000 + x.service(2, 3, 0), 13026);
    }

    private static void partsTold() {
        S.terms(5, "(Parts told are those of which part() told something.)");
        served("none told", new PaperWay(), 10, 999, 0, 0, 0);
        PaperWay x = new PaperWay();
        x.part(9, 5, 1, 0);
        served("ROLLER 9 alone", x, 2, 1, 6, 2, 1);
        x.part(0, 7, 1, 0);
        served("and ROLLER 0", x, 2, 1, 13, 2, 2);
        PaperWay all = new PaperWay();
        for (int r = 0; r < 10; r++) {
            all.part(r, 99, 1, 12);
        }
        served("all ten", all, 10, 999, 9900 + 9990, 1023, 100);
        // the ROLLERS of a WAY play no part
        PaperWay y = Due.way("roller 10 speed 5;");
        served("a ROLLER there isn't told", y, 10, 999, 0, 0, 0);
        S.due("one that isn't there", y.part(5, 1, 1, 1), true);
    }

    private static void ages() {
        S.terms(5, "behind each week AGE is one more, WEEKS at most");
        PaperWay x = parts(10, 3, 0);
        served("0, 1, 2, 3", x, 3, 4, 0, 0, 0);
        served("new by week 3", x, 4, 4, 14, 2, 1);
        x.part(0, 10, 3, 2);
        served("2, 3", x, 1, 4, 0, 0, 0);
        served("new by week 1", x, 2, 4, 14, 1, 1);
        x.part(0, 10, 3, 3);
        served("3: new in week 0", x, 1, 4, 14, 1, 1);
        x.part(0, 10, 3, 12);
        served("far above", x, 1, 4, 14, 1, 1);
        x.part(0, 10, 12, 12);
        served("12 of 12", x, 1, 4, 14, 1, 1);
        x.part(0, 10, 12, 11);
        served("11 of 12", x, 1, 4, 0, 0, 0);
        x.part(0, 10, 12, 2);
        served("2 of 12, ten weeks", x, 10, 4, 0, 0, 0);
        x.part(0, 10, 12, 3);
        served("3 of 12, ten weeks", x, 10, 4, 14, 1, 1);
        S.terms(5, "at which any of the parts told may be made new (AGE 0)");
        x.part(0, 10, 3, 3);
        served("0 in week 0, then three weeks", x, 3, 4, 14, 1, 1);
        served("and no fourth", x, 4, 4, 28, 3, 2);
    }

    private static void visits() {
        S.terms(5, "At the beginning of each week 0 to n - 1 there may be a VISIT");
        PaperWay x = parts(10, 1, 1);
        for (int n = 1; n <= 10; n++) {
            served("each week", x, n, 4, 14 * n, (1 << n) - 1, n);
        }
        x.part(0, 10, 1, 0);
        for (int n = 1; n <= 10; n++) {
            served("each but the first", x, n, 4, 14 * (n - 1), (1 << n) - 2, n - 1);
        }
    }

    private static void leastOfAll() {
        S.terms(5, "The least of VISITS times their price and COSTS of all new ones");
        // 0 is due by week 1 of five, 1 by week 3: one VISIT for both in week 1
        PaperWay x = parts(10, 4, 3, 7, 4, 1);
        served("one VISIT for both", x, 5, 5, 22, 2, 2);
        // a dear part that is made new rather twice than a VISIT more
        PaperWay y = parts(50, 5, 0, 1, 2, 0);
        served("each part by itself", y, 9, 0, 54, 2 + 8 + 32 + 128, 5);
        // 0 in weeks 0, 2 or 1, 3; 1 in week 1 or 2
        PaperWay z = parts(1, 2, 1, 30, 3, 1);
        served("VISITS are free", z, 4, 0, 32, 1 + 4, 3);
        // 0 must be new in week 0 and in 2, 3 or 4; 1 once, if in week 1, else twice
        PaperWay v = parts(7, 4, 4, 6, 5, 4);
        served("three VISITS cost less than a new one", v, 6, 2, 26, 1 + 2 + 4, 3);
        served("at another price they don't", v, 6, 7, 40, 1 + 4, 4);
        served("nor where they are free", v, 6, 0, 20, 1 + 2 + 4, 3);
    }

    private static void likeOnes() {
        S.terms(5, "of like ones the fewest VISITS, then the least number (1 for week 0, 2 for week 1 ..)");
        PaperWay x = parts(5, 2, 0, 5, 2, 1);
        served("price 0: one VISIT, not two", x, 3, 0, 10, 2, 2);
        PaperWay y = parts(5, 3, 1);
        served("week 0, 1 or 2: week 0", y, 3, 9, 14, 1, 1);
        served("week 1 or 2: week 1", y, 4, 9, 14, 2, 1);
        served("week 2", y, 5, 9, 14, 4, 1);
        served("0 with 3, 1 with 3 or 4 ..", y, 6, 9, 28, 1 + 8, 2);
        served("1 with 4", y, 7, 9, 28, 2 + 16, 2);
        S.terms(5, "of these as few new ones as can be of each");
        PaperWay z = parts(0, 2, 0, 0, 12, 0);
        served("COST 0, and yet none for nothing", z, 5, 9, 18, 2 + 8, 2);
        PaperWay v = parts(0, 2, 0, 0, 3, 0);
        served("each as few as can be", v, 5, 9, 18, 2 + 8, 3);
    }

    private static void row() {
        S.promise(32, "A ROW has n numbers of a sort, all 0 (in place of another one): 0");
        PaperWay x = new PaperWay();
        S.due("row", x.row(0, 3, 2), 0);
        x.write(0, 0, 7);
        x.write(0, 1, 7);
        S.due("in place of it", x.row(0, 3, 2), 0);
        x.page(0, false);
        S.due("all 0", x.load(0, 2), 2);
        x.empty();
        S.terms(5, "ROWS 0 to 3 of memory are MISSING at first, or have 0 to 60 numbers of 8 bits (sort 0), 16 (1), 32 (2),"
                + " 64 (3)");
        PaperWay y = new PaperWay();
        for (int r = 0; r < 4; r++) {
            S.due("MISSING", y.save(r), -6);
            S.due("60", y.row(r, r, 60), 0);
            S.due("the last", y.write(r, 59, 5), 5);
            S.due("none behind", y.write(r, 60, 5), NOT_WRITTEN);
            S.due("0", y.row(r, r, 0), 0);
            S.due("none", y.write(r, 0, 5), NOT_WRITTEN);
            S.due("and not MISSING", y.save(r), 0);
        }
        S.promise(32, "-2: no such ROW, sort, n is above 60");
        y.row(0, 0, 3);
        y.write(0, 2, 9);
        for (int v : new int[] {-1, 4, LEAST, MOST}) {
            S.due("ROW " + v, y.row(v, 0, 5), -2);
            S.due("sort " + v, y.row(0, v, 5), -2);
            S.due("ahead of -3", y.row(v, 0, -1), -2);
            S.due("ahead of -3", y.row(0, v, -1), -2);
        }
        S.due("61", y.row(0, 0, 61), -2);
        S.due("most", y.row(0, 0, MOST), -2);
        S.promise(32, "-3, and the ROW stays: n is below 0");
        S.due("-1", y.row(0, 3, -1), -3);
        S.due("least", y.row(0, 3, LEAST), -3);
        S.due("its sort stays", y.write(0, 0, 128), -128);
        S.due("its number stays", y.write(0, 3, 1), NOT_WRITTEN);
        for (int p = 0; p < 8; p++) {
            y.page(0, false);
        }
        y.write(0, 0, 0);
        y.write(0, 2, 7);
        S.due("-1", y.row(0, 0, -1), -3);
        S.due("what is in it stays", y.load(0, 3), 3);
        S.due("the 7", y.kept(7), 2);
        S.due("a MISSING one stays", new PaperWay().row(0, 0, -1), -3);
    }

    private static void write() {
        S.promise(33, "Number i of a ROW is v, cut to its sort: as it is there");
        PaperWay x = new PaperWay();
        for (int r = 0; r < 4; r++) {
            x.row(r, r, 2);
        }
        long[][] due = {{0, 0, 0, 0, 0}, {-1, -1, -1, -1, -1}, {127, 127, 127, 127, 127}, {128, -128, 128, 128, 128},
            {-128, -128, -128, -128, -128}, {-129, 127, -129, -129, -129}, {255, -1, 255, 255, 255},
            {256, 0, 256, 256, 256}, {32767, -1, 32767, 32767, 32767}, {32768, 0, -32768, 32768, 32768},
            {-32769, -1, 32767, -32769, -32769}, {65536, 0, 0, 65536, 65536},
            {2147483647L, -1, -1, 2147483647L, 2147483647L}, {2147483648L, 0, 0, -2147483648L, 2147483648L},
            {-2147483649L, -1, -1, 2147483647L, -2147483649L}, {4294967296L, 0, 0, 0, 4294967296L},
            {Long.MAX_VALUE, -1, -1, -1, Long.MAX_VALUE}, {Long.MIN_VALUE, 0, 0, 0, Long.MIN_VALUE}};
        for (long[] d : due) {
            for (int sort = 0; sort < 4; sort++) {
                S.due("sort " + sort + ", " + d[0], x.write(sort, 1, d[0]), d[1 + sort]);
            }
        }
        S.promise(33, "-1,000,000: no such ROW, it is MISSING, there is no such number");
        for (int v : new int[] {-1, 4, LEAST, MOST}) {
            S.due("ROW " + v, x.write(v, 0, 5), NOT_WRITTEN);
        }
        for (int v : new int[] {-1, 2, 60, LEAST, MOST}) {
            S.due("number " + v, x.write(0, v, 5), NOT_WRITTEN);
        }
        for (int r = 0; r < 4; r++) {
            S.due("MISSING", new PaperWay().write(r, 0, 5), NOT_WRITTEN);
        }
    }

    private static PaperWay pages(int n, int... stack) {
        PaperWay x = new PaperWay();
        for (int p = 0; p < n; p++) {
            x.page(0, false);
        }
        for (int p : stack) {
            x.out(p);
        }
        return x;
    }

    private static void save() {
        S.promise(34, "The STACK is written into a ROW, from number 0 on: how many");
        for (int sort = 0; sort < 4; sort++) {
            PaperWay x = pages(8, 7, 0, 5);
            x.row(sort, sort, 4);
            for (int i = 0; i < 4; i++) {
                x.write(sort, i, 6);
            }
            S.due("three", x.save(sort), 3);
            S.due("the STACK stays", x.count(11), 3);
            x.empty();
            S.due("written, and the fourth stays", x.load(sort, 4), 4);
            x.copies(3);
            S.due("7", x.kept(7), 0);
            S.due("0", x.kept(8), 1);
            S.due("5", x.kept(13), 2);
            S.due("6", x.kept(14), 3);
        }
        PaperWay y = pages(1);
        y.row(0, 0, 60);
        S.due("an empty STACK", y.save(0), 0);
        for (int i = 0; i < 60; i++) {
            y.out(0);
        }
        S.due("a full one", y.save(0), 60);
        S.promise(34, "-2: no such ROW");
        for (int v : new int[] {-1, 4, LEAST, MOST}) {
            S.due("ROW " + v, y.save(v), -2);
        }
        S.promise(34, "-6: it is MISSING");
        for (int r = 1; r < 4; r++) {
            S.due("ROW " + r, y.save(r), -6);
        }
        S.promise(34, "-7, and nothing happens: the ROW is shorter");
        y.row(1, 0, 59);
        S.due("59 for 60", y.save(1), -7);
        PaperWay z = pages(2, 1, 1, 1);
        z.row(0, 0, 2);
        S.due("2 for 3", z.save(0), -7);
        S.due("nothing happens to the STACK", z.count(11), 3);
        z.load(0, 2);
        S.due("nor to the ROW", z.kept(0), 0);
        z.out(1);
        z.row(0, 0, 0);
        S.due("0 for 3", z.save(0), -7);
    }

    private static void load() {
        S.promise(35, "The STACK is as the first n numbers of a ROW tell: n");
        PaperWay x = pages(3, 1, 1);
        x.row(2, 1, 3);
        x.write(2, 0, 2);
        x.write(2, 1, 0);
        x.write(2, 2, 2);
        S.due("two", x.load(2, 2), 2);
        S.due("two", x.count(11), 2);
        S.due("0 stands in WANTED ahead of 2", x.kept(0), 1);
        S.due("asked ahead", x.again(0), 2);
        S.due("three", x.load(2, 3), 3);
        S.due("asked behind", x.again(0), 1);
        S.due("0, then 2", x.kept(0) * 10 + x.kept(2), 12);
        S.due("none", x.load(2, 0), 0);
        S.due("empty", x.count(11), 0);
        PaperWay full = pages(1);
        full.row(0, 0, 60);
        S.due("60", full.load(0, 60), 60);
        S.due("no 61st", full.out(0), -4);
        S.promise(35, "-2: no such ROW");
        for (int v : new int[] {-1, 4, LEAST, MOST}) {
            S.due("ROW " + v, x.load(v, 0), -2);
            S.due("ahead of -7", x.load(v, -1), -2);
        }
        S.promise(35, "-6: it is MISSING");
        S.due("MISSING", x.load(0, 0), -6);
        S.due("ahead of -7", x.load(0, -1), -6);
        S.due("ahead of -7", x.load(0, 61), -6);
        S.promise(35, "-7: it has not so many, n is below 0");
        for (int v : new int[] {4, 60, 61, -1, LEAST, MOST}) {
            S.due("n " + v, x.load(2, v), -7);
        }
        S.promise(35, "-5, and nothing happens: one of these is no PAGE");
        x.load(2, 2);
        long[] never = {-1, 3, 8, 127, Long.MAX_VALUE, Long.MIN_VALUE, 1L << 32, (1L << 32) + 1, -(1L << 32) + 1};
        x.row(3, 3, 3);
        x.write(3, 0, 1);
        for (long v : never) {
            x.write(3, 1, v);
            S.due("a " + v, x.load(3, 2), -5);
            S.due("nothing happens", x.count(11) * 10 + x.kept(0), 21);
            S.due("ahead of it: -7", x.load(3, 4), -7);
            S.due("the first is a PAGE", x.load(3, 1), 1);
            x.load(2, 2);
        }
        S.due("without PAGES", rowAlone(1), -5);
        S.due("none of them", rowAlone(0), 0);
    }

    private static int rowAlone(int n) {
        PaperWay x = new PaperWay();
        x.row(0, 0, 1);
        return x.load(0, n);
    }

    private static void image() {
        S.promise(36, "An IMAGE is made: true");
        PaperWay x = new PaperWay();
        S.due("0", x.image(0), true);
        S.due("1", x.image(1), true);
        S.due("in place of it", x.image(0), true);
        S.promise(36, "false: none such");
        for (int v : new int[] {-1, 2, LEAST, MOST}) {
            S.due("IMAGE " + v, x.image(v), false);
        }
        S.promise(37, "false: none such, none was made");
        PaperWay y = new PaperWay();
        S.due("none was made", y.restore(0), false);
        S.due("none was made", y.restore(1), false);
        y.image(1);
        S.due("0 still not", y.restore(0), false);
        S.due("1", y.restore(1), true);
        for (int v : new int[] {-1, 2, LEAST, MOST}) {
            S.due("IMAGE " + v, y.restore(v), false);
        }
    }

    private static void imageHolds() {
        S.terms(5, "IMAGES 0 to 1: the SET, TRAYS, POCKET, HEAT, COPIES, STACK, SERVICE, as they were (none at first)");
        PaperWay x = new PaperWay();
        x.page(1, true);
        x.page(1, true);
        x.tray(1, 1, true);
        x.pocket(2, 2);
        x.heat(5, 3, 2, 4);
        x.copies(2);
        x.out(1);
        x.part(0, 10, 3, 1);
        x.image(1);
        // each of them changed alone, and back
        x.empty();
        x.page(2, false);
        S.due("a PAGE more", x.plan(-1), -1);
        asItWas("SET", x);
        x.empty();
        asItWas("STACK", x);
        x.out(0);
        asItWas("STACK", x);
        x.empty();
        x.out(0);
        S.due("another PAGE", x.kept(0), 0);
        asItWas("what is in the STACK", x);
        x.tray(1, 0, true);
        asItWas("KIND of a TRAY", x);
        x.tray(1, 1, false);
        asItWas("paper", x);
        x.tray(0, 1, true);
        asItWas("another TRAY", x);
        x.pocket(1, 2);
        asItWas("HOLD", x);
        x.pocket(2, 4);
        asItWas("REST", x);
        x.heat(0, 3, 2, 4);
        asItWas("HEAT at first", x);
        x.heat(5, 9, 2, 4);
        asItWas("NEED", x);
        x.heat(5, 3, 9, 4);
        asItWas("COST", x);
        x.heat(5, 3, 2, 1);
        S.due("four STOPS", x.plan(-1), 8);
        asItWas("GAIN", x);
        x.copies(3);
        S.due("two more", x.again(0), 5);
        asItWas("COPIES", x);
        x.part(0, 11, 3, 1);
        S.due("one more", x.service(5, 4, 0), 15);
        asItWas("COST of a part", x);
        x.part(0, 10, 2, 1);
        asItWas("WEEKS", x);
        x.part(0, 10, 3, 2);
        asItWas("AGE", x);
        x.part(1, 1, 1, 1);
        asItWas("another part told", x);
    }

    private static void asItWas(String what, PaperWay x) {
        S.due(what + ": restore", x.restore(1), true);
        int[] acts = {3, 3, 0, 1, 1};
        S.due(what + ": PLAN", x.plan(-1), 5);
        for (int k = 0; k < 5; k++) {
            S.due(what + ": act " + k, x.plan(k), acts[k]);
        }
        S.due(what + ": PAGES", x.count(9), 2);
        S.due(what + ": COPIES", x.count(10), 2);
        S.due(what + ": STACK", x.count(11), 1);
        S.due(what + ": KEPT", x.kept(1), 0);
        S.due(what + ": LACKING", x.again(0), 3);
        S.due(what + ": sides", x.pay(9, 1, 1), 2);
        S.due(what + ": SERVICE", x.service(5, 4, 0), 14);
        S.due(what + ": VISITS", x.service(5, 4, 1), 4);
        S.due(what + ": new parts", x.service(5, 4, 2), 1);
    }

    private static void restore() {
        S.promise(37, "All that is in an IMAGE is as it was: true");
        PaperWay x = pages(1);
        x.copies(3);
        x.image(0);
        x.copies(4);
        x.image(1);
        x.copies(5);
        S.due("0", x.restore(0), true);
        S.due("COPIES", x.count(10), 3);
        S.due("1", x.restore(1), true);
        S.due("COPIES", x.count(10), 4);
        x.copies(6);
        S.due("0 stays as it was", x.restore(0), true);
        S.due("COPIES", x.count(10), 3);
        S.due("1 stays as it was", x.restore(1), true);
        S.due("COPIES", x.count(10), 4);
        // two sets by turns, in one object
        PaperWay v = new PaperWay();
        v.image(0);
        v.page(1, true);
        v.page(2, false);
        v.tray(1, 1, true);
        v.tray(2, 2, true);
        v.out(0);
        v.image(1);
        v.restore(0);
        S.due("no PAGES", v.count(9), 0);
        v.page(3, false);
        v.page(3, true);
        v.page(3, false);
        v.tray(3, 3, true);
        v.out(2);
        v.image(0);
        for (int i = 0; i < 3; i++) {
            S.due("the one", v.restore(1), true);
            S.due("its PLAN", v.plan(-1) * 100 + v.plan(0) * 10 + v.plan(3), 434);
            S.due("its sides", v.pay(9, 1, 1), 2);
            S.due("its STACK", v.kept(0), 0);
            S.due("the other", v.restore(0), true);
            S.due("its PLAN", v.plan(-1) * 100 + v.plan(0) * 10 + v.plan(2), 451);
            S.due("its sides", v.pay(9, 1, 1), 1);
            S.due("its STACK", v.kept(2), 0);
        }
        // what isn't in it stays: ROWS, the WAY, SHEETS, what is OBSERVED, THE TAPE
        PaperWay y = Due.way("roller 10 speed 5;eye 12;");
        y.image(0);
        y.row(0, 0, 2);
        y.write(0, 0, 1);
        y.lay(20, false);
        y.tick(2);
        y.saw(0, 1, -1);
        y.corner(50, true);
        y.set(0, 0, 9);
        y.feed(1, 2, 3, 4, 5);
        S.due("restore", y.restore(0), true);
        S.due("SHEETS, NOW", y.count(4) * 10 + y.count(3), 12);
        S.due("HEAD", y.sheet(0, 1), 200);
        S.due("EYES OBSERVED", y.count(8), 1);
        S.due("CORNERS", y.count(7), 1);
        S.due("WEAR", y.set(0, 0, 9), 9);
        S.due("THE TAPE", y.count(12), 20);
        S.due("the ROW", y.save(0), 0);
        y.page(0, false);
        S.due("its number", y.load(0, 1), -5);
        // a TEXT leaves the set and its IMAGES
        PaperWay z = pages(2, 1);
        z.image(0);
        z.copies(9);
        Due.text(z, "roller 10 speed 5;");
        S.due("the set stays", z.count(9) * 100 + z.count(10) * 10 + z.count(11), 291);
        S.due("the IMAGE stays", z.restore(0), true);
        S.due("COPIES", z.count(10), 1);
    }

    private static void count() {
        S.promise(38, "0 ROLLERS, 1 EYES, 2 LENGTH, 3 NOW, 4 SHEETS, 5 in the POCKET, 6 the JAMMED one (NONE), 7 CORNERS,"
                + " 8 EYES OBSERVED, 9 PAGES, 10 COPIES, 11 of the STACK, 12 bytes of THE TAPE");
        PaperWay x = Due.way("way 60;roller 10 speed 5;roller 15 speed 5;roller 20 speed 5;eye 1;eye 2;eye 3;eye 4;"
                + "turn 12 back 5 hold 3 rest 20;");
        counted("at first", x, 3, 4, 60, 0, 0, 0, -1, 0, 0, 0, 1, 0, 0);
        for (int i = 0; i < 2; i++) {
            x.lay(10, true);
            x.tick(3);
        }
        counted("two in the POCKET", x, 3, 4, 60, 6, 2, 2, -1, 0, 0, 0, 1, 0, 0);
        x.corner(12, true);
        x.corner(40, true);
        x.lay(10, false);
        x.tick(300);
        x.saw(0, 1, 2);
        x.saw(3, 1, 2);
        x.saw(1, 1, 2);
        for (int p = 0; p < 5; p++) {
            x.page(0, false);
        }
        x.copies(40);
        for (int i = 0; i < 7; i++) {
            x.out(4);
        }
        x.feed(1, 2, 3, 4, 5);
        counted("all of it", x, 3, 4, 60, 12, 3, 2, 2, 2, 3, 5, 40, 7, 20);
        S.promise(38, "-2 for others");
        for (int what : new int[] {-1, 13, 14, LEAST, MOST}) {
            S.due("count(" + what + ")", x.count(what), -2);
        }
    }

    private static void counted(String when, PaperWay x, int... due) {
        for (int what = 0; what < due.length; what++) {
            S.due(when + ": count(" + what + ")", x.count(what), due[what]);
        }
    }

    private static void refusals() {
        S.terms(5, "Of several refusals of a call those told by numbers below NONE go ahead of NONE (none, no such i-th,"
                + " k-th, not so many); of these the one it tells first");
        PaperWay x = Due.way("roller 10 speed 5;eye 12;");
        x.saw(0, 120, -1);
        S.due("explain: -3 ahead of NONE", x.explain(9, 1), -3);
        S.due("explain: -3 ahead of -5", new PaperWay().explain(9, 1), -3);
        S.due("explain: -5 ahead of NONE", new PaperWay().explain(10, 1), -5);
        S.due("crease: -3 ahead of NONE", x.crease(9, 1, -1, -1, 99), -3);
        S.due("foretold: -2 ahead of -3", x.foretold(1, 101, 9), -2);
        S.due("set: -2 ahead of -3", x.set(1, 0, -1), -2);
        S.due("lay: -3 ahead of -5", x.lay(9, true), -3);
        PaperWay y = pages(1);
        y.row(0, 0, 1);
        y.write(0, 0, 5);
        S.due("load: -2 ahead of -7", y.load(4, -1), -2);
        S.due("load: -6 ahead of -7", y.load(1, -1), -6);
        S.due("load: -7 ahead of -5", y.load(0, 2), -7);
        S.due("row: -2 ahead of -3", y.row(4, 9, -1), -2);
        S.due("out: -2", y.out(1), -2);
    }
}
