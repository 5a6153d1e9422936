/** Any numbers in any state: no call throws, and the same calls give the same answers. */
public final class AnyCallsTest {
    private static final int[] ODD = {-1, 0, 1, 2, 3, -2, Integer.MIN_VALUE, Integer.MAX_VALUE, 60, 61, 400, 120, -100,
        Integer.MAX_VALUE - 1, Integer.MIN_VALUE + 1, 1 << 30};
    private static final String[] TEXTS = {
        "way 40;roller 3 speed 9;roller 12 speed 8;roller 21 speed 9;roller 30 speed 7;roller 39 speed 9;"
            + "eye 5;eye 20;eye 40;turn 25 back 8 hold 2 rest 3;",
        "roller 10 speed 5;", "way 300;roller 299 speed 1;eye 300;",
        "roller 5 speed 9;roller 14 speed 9;eye 9;eye 13;damp 80;turn 10 back 3 hold 1 rest 1;", "roller 5 spee 9;"};

    public static void main(String[] args) {
        Due d = new Due("AnyCallsTest");
        Due.Dice dice = new Due.Dice(23);
        int answers = 0;
        for (int run = 0; run < 300; run++) {
            PaperWay x = new PaperWay();
            PaperWay y = new PaperWay();
            for (int i = 0; i < 512; i++) {
                int call = dice.roll(38);
                int[] a = new int[5];
                for (int k = 0; k < 5; k++) {
                    a[k] = number(dice);
                }
                if (call == 0 || call == 1 && dice.roll(2) == 0) {
                    i += readText(x, y, TEXTS[dice.roll(TEXTS.length)], d);
                    continue;
                }
                long first = answer(x, call, a);
                d.due("call " + call + " of run " + run, answer(y, call, a), first);
                answers += first >= 0 ? 1 : 0;
            }
        }
        d.due("many answers are no refusals", answers > 40000, true);
        d.end();
    }

    private static int readText(PaperWay x, PaperWay y, String s, Due d) {
        d.due("text", Due.text(x, s), Due.text(y, s));
        return s.length() / 20 + 1;
    }

    private static int number(Due.Dice dice) {
        switch (dice.roll(8)) {
            case 0:
                return ODD[dice.roll(ODD.length)];
            case 1:
                return dice.roll(61);
            case 2:
                return dice.between(10, 60);
            default:
                return dice.roll(4);
        }
    }

    private static long answer(PaperWay x, int call, int[] a) {
        if (call < 13) {
            return ofWay(x, call, a);
        }
        return call < 29 ? ofCausesAndSet(x, call, a) : ofService(x, call, a);
    }

    private static long ofWay(PaperWay x, int call, int[] a) {
        switch (call) {
            case 1:
                return x.feed(a[0], a[1], a[2], a[3], a[4]);
            case 2:
                return a[0] % 7 == 0 ? x.text(a[0]) : x.count(12);
            case 3:
                return x.fault(a[0]);
            case 4:
                return x.set(a[0], a[1], a[2]);
            case 5:
                return x.corner(a[0], a[1] > 1) ? 1 : 0;
            case 6:
                return x.lay(a[0], a[1] > 1);
            case 7:
                return x.lay(10 + (a[0] & 7), a[1] > 1);
            case 8:
                return x.tick(a[0]);
            case 9:
                return x.sheet(a[0], a[1]);
            case 10:
                return x.clear(a[0] > 1);
            case 11:
                return x.sees(a[0]);
            default:
                return x.passing(a[0], a[1], a[2]);
        }
    }

    private static long ofCausesAndSet(PaperWay x, int call, int[] a) {
        switch (call) {
            case 13:
                return x.saw(a[0], a[1], a[2]) ? 1 : 0;
            case 14:
                return x.forget();
            case 15:
                return x.explain(a[0], a[1]);
            case 16:
                return x.foretold(a[0], a[1], a[2]);
            case 17:
                return x.crease(a[0], a[1], a[2], a[3], a[4]);
            case 18:
                return x.page(a[0], a[1] > 1);
            case 19:
                return x.tray(a[0], a[1], a[2] > 1) ? 1 : 0;
            case 20:
                return x.pocket(a[0], a[1]) ? 1 : 0;
            case 21:
                return x.heat(a[0], a[1], a[2], a[3]) ? 1 : 0;
            case 22:
                return x.plan(a[0]);
            case 23:
                return x.copies(a[0]);
            case 24:
                return x.out(a[0]);
            case 25:
                return a[0] == 3 ? x.empty() : x.out(a[1]);
            case 26:
                return x.again(a[0]);
            case 27:
                return x.lack(a[0]);
            default:
                return x.kept(a[0]);
        }
    }

    private static long ofService(PaperWay x, int call, int[] a) {
        switch (call) {
            case 29:
                return x.pay(a[0], a[1], a[2]);
            case 30:
                return x.part(a[0], a[1], a[2], a[3]) ? 1 : 0;
            case 31:
                return x.service(a[0], a[1], a[2]);
            case 32:
                return x.row(a[0], a[1], a[2]);
            case 33:
                return x.write(a[0], a[1], (long) a[2] << (a[3] & 31));
            case 34:
                return x.save(a[0]);
            case 35:
                return x.load(a[0], a[1]);
            case 36:
                return x.image(a[0]) ? 1 : 0;
            default:
                return a[2] == 1 ? (x.restore(a[0]) ? 1 : 0) : x.count(a[1]);
        }
    }
}
