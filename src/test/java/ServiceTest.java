/** Promises 30 and 31: parts told, and the rounds of service at the least cost. */
public final class ServiceTest {
    private static final Due D = new Due("ServiceTest");

    public static void main(String[] args) {
        partAnswers();
        serviceAnswers();
        onePart();
        agesAbove();
        twoParts();
        likeOnes();
        toldAnew();
        many();
        D.end();
    }

    private static void partAnswers() {
        PaperWay x = new PaperWay();
        D.due("roller 10", x.part(10, 0, 1, 0), false);
        D.due("roller -1", x.part(-1, 0, 1, 0), false);
        D.due("cost -1", x.part(0, -1, 1, 0), false);
        D.due("cost 100", x.part(0, 100, 1, 0), false);
        D.due("weeks 0", x.part(0, 0, 0, 0), false);
        D.due("weeks 13", x.part(0, 0, 13, 0), false);
        D.due("age -1", x.part(0, 0, 1, -1), false);
        D.due("age 13", x.part(0, 0, 1, 13), false);
        D.due("refused: none is told", x.service(10, 9, 0), 0);
        D.due("least numbers", x.part(0, 0, 1, 0), true);
        D.due("greatest numbers", x.part(9, 99, 12, 12), true);
        D.due("refused: as it was", x.part(0, 100, 12, 0), false);
        // part 0 once in each week but the first, part 9 in week 0
        D.due("service", x.service(3, 10, 0), 99 + 3 * 10);
        D.due("weeks", x.service(3, 10, 1), 7);
        D.due("new ones", x.service(3, 10, 2), 3);
    }

    private static void serviceAnswers() {
        PaperWay x = new PaperWay();
        x.part(0, 10, 3, 1);
        D.due("n 0", x.service(0, 4, 0), -1);
        D.due("n 11", x.service(11, 4, 0), -1);
        D.due("n least", x.service(Integer.MIN_VALUE, 4, 0), -1);
        D.due("price -1", x.service(5, -1, 0), -1);
        D.due("price 1000", x.service(5, 1000, 0), -1);
        D.due("what 3", x.service(5, 4, 3), -1);
        D.due("what -1", x.service(5, 4, -1), -1);
        D.due("price 999", x.service(5, 999, 0), 1009);
        D.due("price 0", x.service(5, 0, 0), 10);
    }

    private static void served(PaperWay x, int n, int price, int total, int weeks, int renewed) {
        String call = "service(" + n + ", " + price + ", ";
        D.due(call + "0)", x.service(n, price, 0), total);
        D.due(call + "1)", x.service(n, price, 1), weeks);
        D.due(call + "2)", x.service(n, price, 2), renewed);
    }

    private static void onePart() {
        PaperWay x = new PaperWay();
        x.part(0, 10, 3, 1);
        served(x, 1, 4, 0, 0, 0);
        served(x, 2, 4, 0, 0, 0);
        // AGE would be 4 behind week 2: new in week 0, 1 or 2
        served(x, 3, 4, 14, 1, 1);
        served(x, 4, 4, 14, 2, 1);
        served(x, 5, 4, 14, 4, 1);
        // week 2 at the latest, then three weeks on: the least number of two visits
        served(x, 6, 4, 28, 1 + 8, 2);
        served(x, 8, 4, 28, 4 + 32, 2);
        served(x, 9, 4, 42, 1 + 8 + 64, 3);
        x.part(0, 10, 12, 0);
        served(x, 10, 4, 0, 0, 0);
        x.part(0, 10, 10, 0);
        served(x, 10, 4, 0, 0, 0);
        x.part(0, 10, 9, 0);
        served(x, 10, 4, 14, 2, 1);
        x.part(0, 7, 1, 0);
        served(x, 10, 1, 72, 1022, 9);
        x.part(0, 7, 1, 1);
        served(x, 10, 1, 80, 1023, 10);
    }

    private static void agesAbove() {
        PaperWay x = new PaperWay();
        x.part(5, 9, 3, 12);
        served(x, 1, 100, 109, 1, 1);
        served(x, 4, 100, 218, 1 + 2, 2);
        x.part(5, 9, 3, 3);
        served(x, 1, 100, 109, 1, 1);
        x.part(5, 9, 12, 12);
        served(x, 10, 0, 9, 1, 1);
        x.part(5, 9, 12, 11);
        served(x, 1, 0, 0, 0, 0);
        served(x, 2, 0, 9, 1, 1);
    }

    private static void twoParts() {
        PaperWay x = new PaperWay();
        x.part(0, 10, 4, 0);
        x.part(1, 3, 3, 0);
        // 0 at week 1 to 4, 1 at week 2 or 3 .. a visit for both
        served(x, 6, 50, 63, 8, 2);
        served(x, 6, 0, 13, 8, 2);
        // at a high price a part is made new early to save a visit; at a low one not
        PaperWay y = new PaperWay();
        y.part(2, 50, 5, 0);
        y.part(3, 1, 2, 0);
        // 3 in weeks 2, 4, 6, and 2 in one of these; for nine weeks in 1, 3, 5, 7
        served(y, 8, 0, 50 + 3, 4 + 16 + 64, 4);
        served(y, 9, 0, 50 + 4, 2 + 8 + 32 + 128, 5);
        PaperWay z = new PaperWay();
        z.part(2, 50, 5, 0);
        z.part(3, 50, 5, 4);
        // 3 by week 1, then five weeks; 2 by week 5
        served(z, 6, 10, 110, 2, 2);
        // 3 in week 0, both in week 2
        served(z, 7, 10, 170, 1 + 4, 3);
        served(z, 7, 60, 270, 1 + 4, 3);
    }

    private static void likeOnes() {
        // at price 0 fewer visits of like totals
        PaperWay x = new PaperWay();
        x.part(0, 5, 2, 0);
        x.part(1, 5, 2, 1);
        served(x, 3, 0, 10, 2, 2);
        // COST 0: as few new ones as can be of each, though more would cost no more
        PaperWay y = new PaperWay();
        y.part(0, 0, 2, 0);
        y.part(1, 0, 6, 5);
        served(y, 5, 9, 18, 2 + 8, 3);
        y.part(1, 0, 12, 0);
        served(y, 5, 9, 18, 2 + 8, 2);
    }

    private static void toldAnew() {
        PaperWay x = new PaperWay();
        x.part(0, 5, 1, 0);
        served(x, 2, 1, 6, 2, 1);
        x.part(0, 8, 1, 0);
        served(x, 2, 1, 9, 2, 1);
        served(x, 2, 2, 10, 2, 1);
        served(x, 3, 2, 20, 6, 2);
        x.part(1, 1, 1, 0);
        served(x, 3, 2, 22, 6, 4);
    }

    private static void many() {
        PaperWay x = new PaperWay();
        for (int r = 0; r < 10; r++) {
            x.part(r, 99, 1, 12);
        }
        served(x, 10, 999, 99 * 100 + 9990, 1023, 100);
        served(x, 1, 999, 990 + 999, 1, 10);
    }
}
