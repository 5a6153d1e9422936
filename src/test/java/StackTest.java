/** Promises 23 to 29: copies, the stack, what is lacking and kept, what is paid. */
public final class StackTest {
    private static final Due D = new Due("StackTest");

    public static void main(String[] args) {
        copies();
        outs();
        empties();
        wholeAndLacking();
        leastPlaces();
        earliest();
        noPages();
        anewAfterEachCall();
        largest();
        pays();
        D.end();
    }

    private static PaperWay pages(int n, int copies) {
        PaperWay x = new PaperWay();
        for (int i = 0; i < n; i++) {
            x.page(0, i % 2 == 1);
        }
        x.copies(copies);
        return x;
    }

    private static void stack(PaperWay x, int... pages) {
        x.empty();
        for (int i = 0; i < pages.length; i++) {
            D.due("out", x.out(pages[i]), i + 1);
        }
    }

    private static void copies() {
        PaperWay x = new PaperWay();
        D.due("copies 0", x.copies(0), -3);
        D.due("copies 41", x.copies(41), -3);
        D.due("copies -1", x.copies(-1), -3);
        D.due("copies 40", x.copies(40), 1);
        D.due("refused: as it was", x.copies(41), -3);
        D.due("copies 2", x.copies(2), 40);
        D.due("copies 2", x.count(10), 2);
    }

    private static void outs() {
        PaperWay x = pages(2, 1);
        D.due("no page", x.out(2), -2);
        D.due("page -1", x.out(-1), -2);
        for (int i = 1; i <= 60; i++) {
            D.due("out", x.out(i % 2), i);
        }
        D.due("a 61st", x.out(0), -4);
        D.due("-2 ahead of -4", x.out(2), -2);
        D.due("60", x.count(11), 60);
        PaperWay y = new PaperWay();
        D.due("no pages", y.out(0), -2);
    }

    private static void empties() {
        PaperWay x = pages(2, 1);
        D.due("empty already", x.empty(), 0);
        stack(x, 0, 1, 0);
        D.due("three", x.empty(), 3);
        D.due("none", x.count(11), 0);
        D.due("all are wanted", x.again(0), 2);
        D.due("from 1 on", x.out(1), 1);
    }

    /** paired: for each place of WANTED which of the stack it is paired with, -1 for none. */
    private static void paired(PaperWay x, int stacked, int... paired) {
        int lacking = 0;
        for (int w = 0; w < paired.length; w++) {
            D.due("kept(" + w + ")", x.kept(w), paired[w]);
            if (paired[w] == -1) {
                D.due("lack(" + lacking + ")", x.lack(lacking), w);
                lacking++;
            }
        }
        D.due("lack behind the last one", x.lack(lacking), -1);
        D.due("lack(-1)", x.lack(-1), -1);
        D.due("kept(-1)", x.kept(-1), -1);
        D.due("kept beyond", x.kept(paired.length), -1);
        D.due("again(0)", x.again(0), lacking);
        D.due("again(1)", x.again(1), stacked - (paired.length - lacking));
    }

    private static void wholeAndLacking() {
        PaperWay x = pages(3, 2);
        paired(x, 0, -1, -1, -1, -1, -1, -1);
        D.due("none whole", x.again(2), 0);
        stack(x, 0, 1, 2);
        paired(x, 3, 0, 1, 2, -1, -1, -1);
        D.due("the first whole", x.again(2), 1);
        stack(x, 0, 1, 2, 0, 1, 2);
        paired(x, 6, 0, 1, 2, 3, 4, 5);
        D.due("both whole", x.again(2), 2);
        stack(x, 0, 2, 0, 1, 2);
        paired(x, 5, 0, -1, 1, 2, 3, 4);
        D.due("the second whole", x.again(2), 1);
        stack(x, 2, 1, 0);
        // one of the first copy's, two with the second: 2 then 1, 1 then 0, 2 then 0
        paired(x, 3, -1, 1, -1, 2, -1, -1);
        D.due("none whole", x.again(2), 0);
        D.due("again(3)", x.again(3), -1);
        D.due("again(-1)", x.again(-1), -1);
        stack(x, 2, 2, 2, 1);
        paired(x, 4, -1, -1, 0, -1, 3, -1);
    }

    private static void leastPlaces() {
        PaperWay x = pages(2, 4);
        stack(x, 1);
        paired(x, 1, -1, 0, -1, -1, -1, -1, -1, -1);
        stack(x, 1, 1);
        paired(x, 2, -1, 0, -1, 1, -1, -1, -1, -1);
        stack(x, 1, 0, 0);
        paired(x, 3, -1, 0, 1, -1, 2, -1, -1, -1);
        // five of eight places: 0 0 0 0, so that 1 waits
        stack(x, 0, 0, 0, 0, 1);
        paired(x, 5, 0, -1, 1, -1, 2, -1, 3, 4);
        // a fifth 0 finds no place, nor do ones in between all
        stack(x, 0, 0, 0, 0, 0);
        paired(x, 5, 0, -1, 1, -1, 2, -1, 3, -1);
        // more than there is room for: the least places win, where as many are kept
        PaperWay y = pages(3, 1);
        stack(y, 1, 0, 2);
        paired(y, 3, 1, -1, 2);
        stack(y, 2, 0, 1);
        paired(y, 3, 1, 2, -1);
        stack(y, 2, 1, 0);
        paired(y, 3, 2, -1, -1);
        stack(y, 1, 2, 0);
        paired(y, 3, -1, 0, 1);
        stack(y, 1, 2, 0, 1);
        paired(y, 4, 2, 3, -1);
        stack(y, 1, 2, 0, 1, 2);
        paired(y, 5, 2, 3, 4);
    }

    private static void earliest() {
        PaperWay x = pages(2, 1);
        stack(x, 0, 0, 1, 1);
        paired(x, 4, 0, 2);
        stack(x, 1, 0, 0, 1, 1);
        paired(x, 5, 1, 3);
        PaperWay y = pages(1, 3);
        stack(y, 0, 0);
        paired(y, 2, 0, 1, -1);
        stack(y, 0, 0, 0, 0, 0);
        paired(y, 5, 0, 1, 2);
    }

    private static void noPages() {
        PaperWay x = new PaperWay();
        x.copies(3);
        paired(x, 0);
        D.due("copies of no pages are whole", x.again(2), 3);
    }

    private static void anewAfterEachCall() {
        // each of the three looks at the stack as it is, whichever comes first
        PaperWay y = pages(2, 1);
        y.out(1);
        D.due("kept first", y.kept(1), 0);
        y.out(1);
        y.empty();
        D.due("lack first", y.lack(1), 1);
        y.out(0);
        D.due("lack first", y.lack(0), 1);
        y.out(1);
        D.due("kept first", y.kept(1), 1);
        y.copies(2);
        D.due("again first", y.again(0), 2);
        y.copies(3);
        D.due("kept first", y.kept(2), -1);
        PaperWay x = pages(1, 2);
        D.due("two lack", x.again(0), 2);
        x.out(0);
        D.due("one lacks", x.again(0), 1);
        x.copies(1);
        D.due("none lacks", x.again(0), 0);
        D.due("kept", x.kept(0), 0);
        x.empty();
        D.due("one lacks", x.again(0), 1);
        x.page(0, false);
        D.due("two lack", x.again(0), 2);
        x.row(0, 0, 1);
        x.image(0);
        x.load(0, 1);
        D.due("one lacks", x.again(0), 1);
        x.restore(0);
        D.due("two lack", x.again(0), 2);
    }

    private static void largest() {
        PaperWay x = pages(8, 40);
        D.due("320 lack", x.again(0), 320);
        D.due("the last", x.lack(319), 319);
        D.due("none behind", x.lack(320), -1);
        for (int i = 0; i < 60; i++) {
            x.out(7);
        }
        D.due("40 are kept", x.again(0), 280);
        D.due("20 aren't", x.again(1), 20);
        D.due("the last place", x.kept(319), 39);
        D.due("none whole", x.again(2), 0);
        x.empty();
        for (int i = 59; i >= 0; i--) {
            x.out(i % 8);
        }
        // 3 2 1 0 7 6 .. 0: each page a copy of its own, but for the seven 7 behind a 0
        D.due("of falling pages one a copy", x.again(0), 320 - 47);
        D.due("13 aren't", x.again(1), 13);
    }

    private static void pays() {
        PaperWay x = pages(4, 1);
        D.due("nothing", x.pay(5, 100, 100), 0);
        stack(x, 0, 1, 3, 0);
        // 1 + 2 + 2 + 1 sides
        D.due("n 0", x.pay(0, 100, 1), 6);
        D.due("n 4", x.pay(4, 100, 1), 402);
        D.due("n 6", x.pay(6, 100, 1), 600);
        D.due("n 7", x.pay(7, 100, 1), 600);
        D.due("n 1000", x.pay(1000, 3, 1), 18);
        D.due("a 0", x.pay(4, 0, 7), 14);
        D.due("b 0", x.pay(4, 7, 0), 28);
        D.due("b 100", x.pay(0, 0, 100), 600);
        D.due("n -1", x.pay(-1, 1, 1), -1);
        D.due("n 1001", x.pay(1001, 1, 1), -1);
        D.due("a -1", x.pay(1, -1, 1), -1);
        D.due("a 101", x.pay(1, 101, 1), -1);
        D.due("b -1", x.pay(1, 1, -1), -1);
        D.due("b 101", x.pay(1, 1, 101), -1);
        for (int i = 4; i < 60; i++) {
            x.out(1);
        }
        D.due("60 pages", x.pay(118, 100, 100), 11800);
        D.due("one side at b", x.pay(117, 100, 1), 11701);
    }
}
