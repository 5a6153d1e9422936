/** Promises 32 to 37: rows of memory, the stack saved and loaded, images. */
public final class MemoryTest {
    private static final long NOT_WRITTEN = -1000000L;
    private static final Due D = new Due("MemoryTest");

    public static void main(String[] args) {
        rows();
        writes();
        saves();
        loads();
        imagesMade();
        imagesHoldAll();
        imagesInTurn();
        imagesHoldNoMore();
        D.end();
    }

    private static void rows() {
        PaperWay x = new PaperWay();
        D.due("row 4", x.row(4, 0, 5), -2);
        D.due("row -1", x.row(-1, 0, 5), -2);
        D.due("sort 4", x.row(0, 4, 5), -2);
        D.due("sort -1", x.row(0, -1, 5), -2);
        D.due("n 61", x.row(0, 0, 61), -2);
        D.due("n greatest", x.row(0, 0, Integer.MAX_VALUE), -2);
        D.due("n -1", x.row(0, 0, -1), -3);
        D.due("n least", x.row(0, 0, Integer.MIN_VALUE), -3);
        D.due("-2 ahead of -3", x.row(4, 0, -1), -2);
        D.due("-2 ahead of -3", x.row(0, 4, -1), -2);
        D.due("refused: MISSING", x.save(0), -6);
        D.due("n 60", x.row(0, 3, 60), 0);
        D.due("write 59", x.write(0, 59, 5), 5);
        D.due("n -1: the ROW stays", x.row(0, 0, -1), -3);
        D.due("it stays", x.write(0, 59, 1L << 40), 1L << 40);
        D.due("n 0", x.row(3, 0, 0), 0);
        D.due("not MISSING", x.save(3), 0);
        D.due("no number in it", x.write(3, 0, 1), NOT_WRITTEN);
        // in place of another one: all 0
        x.page(0, false);
        x.page(0, false);
        x.row(1, 0, 2);
        x.write(1, 0, 1);
        x.write(1, 1, 1);
        x.row(1, 0, 2);
        x.load(1, 2);
        D.due("all 0: page 0 twice", x.kept(0), 0);
        D.due("no page 1", x.kept(1), -1);
        x.row(0, 0, 2);
        D.due("a shorter row in its place", x.write(0, 59, 1), NOT_WRITTEN);
        D.due("of another sort", x.write(0, 0, 128), -128);
    }

    private static void writes() {
        PaperWay x = new PaperWay();
        for (int sort = 0; sort < 4; sort++) {
            x.row(sort, sort, 3);
        }
        long[] values = {0, 1, -1, 127, 128, 255, 256, 32767, 32768, 65536, Integer.MAX_VALUE, 1L << 31,
            1L << 32, Long.MAX_VALUE, Long.MIN_VALUE, -129, -32769, -1000000L};
        for (long v : values) {
            D.due("8 bits " + v, x.write(0, 1, v), (byte) v);
            D.due("16 bits " + v, x.write(1, 1, v), (short) v);
            D.due("32 bits " + v, x.write(2, 1, v), (int) v);
            D.due("64 bits " + v, x.write(3, 1, v), v);
        }
        D.due("no row", x.write(4, 0, 1), NOT_WRITTEN);
        D.due("row -1", x.write(-1, 0, 1), NOT_WRITTEN);
        D.due("no number", x.write(0, 3, 1), NOT_WRITTEN);
        D.due("number -1", x.write(0, -1, 1), NOT_WRITTEN);
        D.due("number greatest", x.write(0, Integer.MAX_VALUE, 1), NOT_WRITTEN);
        PaperWay y = new PaperWay();
        D.due("MISSING", y.write(0, 0, 1), NOT_WRITTEN);
    }

    private static PaperWay stacked(int pages, int... stack) {
        PaperWay x = new PaperWay();
        for (int i = 0; i < pages; i++) {
            x.page(0, false);
        }
        for (int p : stack) {
            x.out(p);
        }
        return x;
    }

    private static void saves() {
        PaperWay x = stacked(8, 7, 3, 3, 0, 6);
        D.due("no row", x.save(4), -2);
        D.due("row -1", x.save(-1), -2);
        D.due("MISSING", x.save(2), -6);
        x.row(2, 1, 4);
        x.write(2, 0, 5);
        D.due("shorter", x.save(2), -7);
        x.empty();
        D.due("nothing happened", x.load(2, 1), 1);
        D.due("page 5", x.kept(5), 0);
        x.empty();
        x.row(0, 0, 6);
        x.write(0, 5, 4);
        for (int p : new int[] {7, 3, 3, 0, 6}) {
            x.out(p);
        }
        D.due("saved", x.save(0), 5);
        D.due("the stack stays", x.count(11), 5);
        x.copies(40);
        x.empty();
        D.due("the rest of the row stays", x.load(0, 6), 6);
        D.due("7", x.kept(7), 0);
        D.due("3", x.kept(11), 1);
        D.due("3", x.kept(19), 2);
        D.due("0", x.kept(24), 3);
        D.due("6", x.kept(30), 4);
        D.due("4 as it was", x.kept(36), 5);
        for (int sort = 0; sort < 4; sort++) {
            x.row(1, sort, 6);
            D.due("sort " + sort, x.save(1), 6);
            D.due("sort " + sort, x.load(1, 5), 5);
            D.due("back", x.load(1, 6), 6);
        }
        x.empty();
        D.due("an empty stack", x.save(0), 0);
        D.due("leaves the row", x.load(0, 1), 1);
        D.due("page 7", x.kept(7), 0);
    }

    private static void loads() {
        PaperWay x = stacked(2, 1);
        D.due("no row", x.load(4, 0), -2);
        D.due("row -1", x.load(-1, 0), -2);
        D.due("-2 ahead of -7", x.load(-1, -1), -2);
        D.due("MISSING", x.load(0, 0), -6);
        D.due("-6 ahead of -7", x.load(0, -1), -6);
        x.row(0, 3, 3);
        D.due("not so many", x.load(0, 4), -7);
        D.due("n -1", x.load(0, -1), -7);
        x.write(0, 2, 2);
        D.due("no page 2", x.load(0, 3), -5);
        D.due("nothing happens", x.count(11), 1);
        D.due("nothing happens", x.kept(1), 0);
        D.due("-7 ahead of -5", x.load(0, 4), -7);
        D.due("the first two", x.load(0, 2), 2);
        D.due("two", x.count(11), 2);
        x.write(0, 0, -1);
        D.due("-1 is no page", x.load(0, 1), -5);
        x.write(0, 0, 1L << 32);
        D.due("2 to the 32nd is no page", x.load(0, 1), -5);
        x.write(0, 0, (1L << 32) + 1);
        D.due("nor one more", x.load(0, 1), -5);
        D.due("none of it", x.load(0, 0), 0);
        D.due("the STACK is empty", x.count(11), 0);
        PaperWay y = new PaperWay();
        y.row(0, 0, 1);
        D.due("no pages at all", y.load(0, 1), -5);
        D.due("none of it", y.load(0, 0), 0);
        PaperWay z = stacked(1);
        z.row(0, 0, 60);
        D.due("60", z.load(0, 60), 60);
        D.due("full", z.out(0), -4);
    }

    private static void imagesMade() {
        PaperWay x = new PaperWay();
        D.due("image 2", x.image(2), false);
        D.due("image -1", x.image(-1), false);
        D.due("restore 2", x.restore(2), false);
        D.due("restore -1", x.restore(-1), false);
        D.due("none made", x.restore(1), false);
        D.due("made", x.image(1), true);
        D.due("the other not", x.restore(0), false);
        D.due("restored", x.restore(1), true);
        D.due("again", x.restore(1), true);
        x.copies(3);
        x.image(0);
        x.copies(4);
        x.restore(1);
        D.due("the one", x.count(10), 1);
        x.restore(0);
        D.due("the other", x.count(10), 3);
        x.copies(9);
        D.due("an image stays as it was", x.restore(0), true);
        D.due("as it was", x.count(10), 3);
        x.copies(5);
        x.image(0);
        x.copies(6);
        x.restore(0);
        D.due("made anew", x.count(10), 5);
    }

    private static void imagesHoldAll() {
        PaperWay x = new PaperWay();
        x.page(1, true);
        x.page(1, true);
        x.tray(1, 1, true);
        x.pocket(2, 2);
        x.heat(5, 3, 1, 2);
        x.copies(2);
        x.part(0, 10, 3, 1);
        x.out(1);
        x.out(0);
        // 5: in, 4: in, 3, stop, 5: out, 4: out
        D.due("plan", x.plan(-1), 5);
        x.image(0);
        x.empty();
        x.page(3, false);
        x.tray(1, 1, false);
        x.tray(0, 3, true);
        x.pocket(1, 0);
        x.heat(0, 30, 10, 1);
        x.copies(7);
        x.part(0, 99, 1, 0);
        x.part(4, 99, 1, 0);
        D.due("no plan", x.plan(-1), -1);
        D.due("service", x.service(3, 4, 0), 2 * 198 + 2 * 4);
        D.due("all lack", x.again(0), 21);
        D.due("restored", x.restore(0), true);
        D.due("PAGES", x.count(9), 2);
        D.due("COPIES", x.count(10), 2);
        D.due("STACK", x.count(11), 2);
        D.due("plan", x.plan(-1), 5);
        int[] acts = {3, 3, 0, 1, 1};
        for (int k = 0; k < 5; k++) {
            D.due("plan(" + k + ")", x.plan(k), acts[k]);
        }
        D.due("kept", x.kept(1), 0);
        D.due("kept", x.kept(2), 1);
        D.due("service", x.service(3, 4, 0), 14);
        D.due("new ones", x.service(3, 4, 2), 1);
        D.due("sides of both", x.pay(9, 1, 1), 4);
        // an image made of nothing
        PaperWay y = new PaperWay();
        y.image(0);
        y.page(0, true);
        y.tray(0, 0, true);
        y.part(0, 5, 1, 0);
        y.out(0);
        y.restore(0);
        D.due("no PAGES", y.count(9), 0);
        D.due("no parts told", y.service(9, 9, 0), 0);
        y.page(0, false);
        D.due("no paper", y.plan(-1), -1);
    }

    private static void makeJob(PaperWay x, int seed) {
        Due.Dice dice = new Due.Dice(seed);
        x.empty();
        int n = dice.between(4, 8);
        for (int i = 0; i < n; i++) {
            x.page(dice.roll(4), dice.roll(2) == 0);
        }
        for (int t = 0; t < 4; t++) {
            x.tray(t, (t + seed) % 4, true);
        }
        x.pocket(dice.between(1, 3), dice.between(0, 4));
        x.heat(dice.between(5, 30), dice.between(5, 20), dice.between(1, 10), dice.between(1, 10));
        x.copies(dice.between(1, 4));
        for (int i = 0; i < 12; i++) {
            x.out(dice.roll(n));
        }
        for (int p = 0; p < 5; p++) {
            x.part(dice.roll(10), dice.roll(100), dice.between(1, 6), dice.roll(5));
        }
    }

    private static void sameJob(String at, PaperWay x, PaperWay due) {
        for (int what = 9; what <= 11; what++) {
            D.due(at + "count(" + what + ")", x.count(what), due.count(what));
        }
        int slots = Math.min(40, due.plan(-1));
        for (int k = -1; k < slots; k++) {
            D.due(at + "plan(" + k + ")", x.plan(k), due.plan(k));
        }
        for (int w = 0; w < due.count(9) * due.count(10); w++) {
            D.due(at + "kept(" + w + ")", x.kept(w), due.kept(w));
        }
        D.due(at + "pay", x.pay(1000, 1, 1), due.pay(1000, 1, 1));
        for (int what = 0; what < 3; what++) {
            D.due(at + "service(9, 7, " + what + ")", x.service(9, 7, what), due.service(9, 7, what));
        }
    }

    /** Two jobs in turn in one object, as each is in an object of its own. */
    private static void imagesInTurn() {
        for (int seed = 1; seed <= 20; seed++) {
            PaperWay a = new PaperWay();
            makeJob(a, seed);
            PaperWay b = new PaperWay();
            makeJob(b, seed + 101);
            PaperWay x = new PaperWay();
            x.image(0);
            makeJob(x, seed);
            x.image(1);
            x.restore(0);
            makeJob(x, seed + 101);
            x.image(0);
            sameJob("b of " + seed + ": ", x, b);
            x.restore(1);
            sameJob("a of " + seed + ": ", x, a);
            x.restore(0);
            sameJob("b again of " + seed + ": ", x, b);
        }
    }

    private static void imagesHoldNoMore() {
        PaperWay x = Due.way("roller 10 speed 5; eye 20;");
        x.image(0);
        x.row(0, 0, 3);
        x.write(0, 0, 7);
        x.lay(20, false);
        x.tick(2);
        x.saw(0, 2, 3);
        x.corner(7, true);
        x.set(0, 0, 9);
        x.feed(1, 2, 3, 4, 5);
        x.restore(0);
        D.due("rows stay", x.save(0), 0);
        D.due("the tape stays", x.count(12), 20);
        D.due("sheets stay", x.sheet(0, 1), 200);
        D.due("NOW stays", x.count(3), 2);
        D.due("corners stay", x.count(7), 1);
        D.due("OBSERVED stays", x.count(8), 1);
        D.due("wear stays", x.set(0, 0, 0), 9);
        x.page(0, false);
        D.due("the row's number stays", x.load(0, 1), -5);
        // a text leaves images as they are
        x.copies(8);
        x.image(1);
        x.copies(1);
        D.due("a text", x.text(20), -11);
        Due.text(x, "roller 10 speed 5; eye 20;");
        D.due("restored", x.restore(1), true);
        D.due("COPIES", x.count(10), 8);
    }
}
