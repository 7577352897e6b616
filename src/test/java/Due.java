/** Prints every call whose answer is not the one that is due, and ends with exit code 1 if there was one. */
final class Due {
    private static int calls = 0;
    private static int wrong = 0;

    private Due() {
    }

    static void is(String call, long got, long want) {
        calls++;
        if (got != want) {
            wrong++;
            System.out.println(call + " answered " + got + ", due is " + want);
        }
    }

    static void is(String call, boolean got, boolean want) {
        is(call, got ? 1 : 0, want ? 1 : 0);
    }

    static int wrong() {
        return wrong;
    }

    static void end() {
        System.out.println(wrong == 0 ? "all " + calls + " answers are as due" : wrong + " answers are not as due");
        if (wrong != 0) {
            System.exit(1);
        }
    }

    /** What planned() answers for 0 to 3. */
    static void planned(String label, HearingDesk x, int... want) {
        for (int what = 0; what < 4; what++) {
            is(label + ", planned " + what, x.planned(what), want[what]);
        }
    }

    /** Puts a text behind the tape, byte by byte. */
    static void type(HearingDesk x, String text) {
        int before = x.count(5);
        for (int i = 0; i < text.length(); i += 20) {
            int[] n = new int[5];
            for (int k = 0; k < 20; k++) {
                int b = i + k < text.length() ? text.charAt(i + k) & 255 : 0;
                n[k / 4] |= b << 24 - 8 * (k % 4);
            }
            x.feed(n[0], n[1], n[2], n[3], n[4]);
        }
        x.end(before + text.length());
    }

    static int fees(HearingDesk x, String text) {
        type(x, text);
        return x.fees();
    }
}
