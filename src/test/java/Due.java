/** What the tests share: counting answers that are not as due, and feeding texts. */
final class Due {
    static final int BEYOND = -100001;
    static final int MISSING = -100002;
    static final int SIZE = -100003;
    static final int KIND = -100004;
    static final int FULL = -100005;
    static final int NONE = -100006;

    /** So many wrong answers say enough: no more need be asked. */
    static final int ENOUGH_WRONG = 20;

    static final int MIN = Integer.MIN_VALUE;
    static final int MAX = Integer.MAX_VALUE;

    private static int wrong = 0;
    private static int asked = 0;

    private Due() {
    }

    static void due(String call, long got, long want) {
        asked++;
        if (got != want) {
            wrong++;
            System.out.println(call + " answered " + got + ", due is " + want);
        }
    }

    static void hold(String what, boolean holds) {
        asked++;
        if (!holds) {
            wrong++;
            System.out.println(what);
        }
    }

    static int wrong() {
        return wrong;
    }

    static void end() {
        System.out.println(wrong == 0 ? asked + " answers are as due" : wrong + " of " + asked + " answers are not as due");
        if (wrong != 0) {
            System.exit(1);
        }
    }

    static void feed(CoastLights x, String text) {
        int at = 0;
        while (at < text.length()) {
            int n = Math.min(8, text.length() - at);
            long bytes = 0;
            for (int i = 0; i < n; i++) {
                bytes |= (long) (text.charAt(at + i) & 255) << (8 * i);
            }
            x.feed(n, bytes);
            at += n;
        }
    }

    static int light(CoastLights x, String text, int kind, int cell, int range) {
        feed(x, text);
        return x.light(kind, cell, range);
    }

    /** A sheet of some bits with these numbers. */
    static void sheet(CoastLights x, int s, int bits, int... numbers) {
        x.sheet(s, bits, numbers.length);
        for (int i = 0; i < numbers.length; i++) {
            x.put(s, i, numbers[i]);
        }
    }

    static int cell(int x, int y) {
        return y * 16 + x;
    }
}
