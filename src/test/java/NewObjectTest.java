/** Promise 1: a new object is as at first. */
public final class NewObjectTest {
    public static void main(String[] args) {
        Due d = new Due("NewObjectTest");
        PaperWay x = new PaperWay();
        d.due("NONE", PaperWay.NONE, -1);
        int[] counts = {0, 0, 100, 0, 0, 0, -1, 0, 0, 0, 1, 0, 0};
        for (int what = 0; what < counts.length; what++) {
            d.due("count(" + what + ")", x.count(what), counts[what]);
        }
        d.due("fault(0)", x.fault(0), 0);
        d.due("fault(1)", x.fault(1), -1);
        d.due("set", x.set(0, 0, 0), -2);
        d.due("lay without a roller", x.lay(20, false), -5);
        d.due("tick without a roller", x.tick(3), 3);
        d.due("NOW", x.count(3), 3);
        d.due("sheet", x.sheet(0, 0), -2);
        d.due("clear", x.clear(false), -5);
        d.due("sees", x.sees(0), -2);
        d.due("passing", x.passing(0, 0, 0), -2);
        d.due("saw", x.saw(0, 1, 2), false);
        d.due("forget", x.forget(), 0);
        d.due("explain", x.explain(20, 0), -5);
        d.due("foretold", x.foretold(0, 0, 20), -2);
        // without rollers each h has no creases: 100 of them
        d.due("crease", x.crease(20, -1, -1, -1, -1), 100);
        d.due("corner at LENGTH", x.corner(100, true), true);
        d.due("corner beyond", x.corner(101, true), false);
        for (int r = 0; r < 4; r++) {
            d.due("row is MISSING", x.save(r), -6);
        }
        d.due("no image", x.restore(0), false);
        d.due("no image", x.restore(1), false);
        d.due("copies at first", x.copies(1), 1);
        d.due("nothing wanted", x.again(0), 0);
        d.due("nothing told", x.service(10, 999, 0), 0);
        trayHeatPocketAtFirst(d);
        partsAtFirst(d);
        d.end();
    }

    private static void trayHeatPocketAtFirst(Due d) {
        PaperWay x = new PaperWay();
        d.due("page", x.page(0, false), 0);
        d.due("no paper at first", x.plan(-1), -1);
        x.tray(2, 0, true);
        d.due("HEAT and NEED at first", x.plan(-1), 1);
        d.due("from tray 2", x.plan(0), 4);
        x.heat(30, 30, 0, 1);
        d.due("HEAT of 30 is enough for 30", x.plan(-1), 1);

        PaperWay y = new PaperWay();
        y.tray(0, 0, true);
        y.page(0, true);
        y.page(0, true);
        // HOLD 1: in, out, in, out; REST 0: no stop between
        d.due("HOLD, REST at first", y.plan(-1), 4);
        d.due("in", y.plan(0), 2);
        d.due("out", y.plan(1), 1);
        d.due("in", y.plan(2), 2);
        y.tray(1, 1, true);
        y.page(1, true);
        // with HOLD 2 it would be less to stop right behind the second
        int[] acts = {2, 1, 2, 1, 0, 3, 1};
        planned(d, y, acts);
        y.pocket(2, 0);
        d.due("HOLD 2, in", y.plan(0), 2);
        d.due("HOLD 2, out", y.plan(1), 1);
    }

    private static void planned(Due d, PaperWay y, int[] acts) {
        d.due("HOLD is 1 at first", y.plan(-1), acts.length);
        for (int k = 0; k < acts.length; k++) {
            d.due("HOLD is 1 at first, act " + k, y.plan(k), acts[k]);
        }
    }

    private static void partsAtFirst(Due d) {
        PaperWay x = new PaperWay();
        d.due("parts not told need nothing", x.service(10, 5, 2), 0);
        x.part(3, 7, 12, 0);
        d.due("part 3 runs 10 weeks", x.service(10, 5, 0), 0);
    }
}
