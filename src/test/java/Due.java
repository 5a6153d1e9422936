/** What the tests share: counting answers that are not due, and feeding a text. */
final class Due {
    private final String test;
    private int asked;
    private int wrong;

    Due(String test) {
        this.test = test;
    }

    void due(String call, long got, long want) {
        asked++;
        if (got != want) {
            wrong++;
            if (wrong <= 40) {
                System.out.println(test + ": " + call + " answered " + got + ", due is " + want);
            }
        }
    }

    void due(String call, boolean got, boolean want) {
        due(call, got ? 1 : 0, want ? 1 : 0);
    }

    /** Ends the test: exit code 1 if one answer was not due. */
    void end() {
        System.out.println(test + ": " + asked + " answers, " + wrong + " not as due");
        if (wrong != 0) {
            System.exit(1);
        }
    }

    static int feed(PaperWay x, byte[] bytes, int n) {
        int answer = 0;
        for (int i = 0; i < n; i += 20) {
            int[] five = new int[5];
            for (int k = 0; k < 20; k++) {
                int b = i + k < n ? bytes[i + k] & 255 : 32;
                five[k / 4] = five[k / 4] << 8 | b;
            }
            answer = x.feed(five[0], five[1], five[2], five[3], five[4]);
        }
        return answer;
    }

    static byte[] bytes(String s) {
        byte[] b = new byte[s.length()];
        for (int i = 0; i < b.length; i++) {
            b[i] = (byte) s.charAt(i);
        }
        return b;
    }

    /** Feeds a text and has it read. */
    static int text(PaperWay x, String s) {
        feed(x, bytes(s), s.length());
        return x.text(s.length());
    }

    static PaperWay way(String s) {
        PaperWay x = new PaperWay();
        int lines = text(x, s);
        if (lines < 0) {
            throw new IllegalStateException("no way: " + s + " " + lines + " at " + x.fault(1));
        }
        return x;
    }

    /** Numbers that look random and are the same each time. */
    static final class Dice {
        private long seed;

        Dice(long seed) {
            this.seed = seed;
        }

        /** From 0 to n - 1. */
        int roll(int n) {
            seed = seed * 6364136223846793005L + 1442695040888963407L;
            return (int) ((seed >>> 33) % n);
        }

        int between(int low, int high) {
            return low + roll(high - low + 1);
        }
    }
}
