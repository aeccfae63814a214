/** Counts answers that are as due and prints those that are not. */
final class Checks {
    private int right;
    private int wrong;

    void due(String call, long got, long want) {
        if (got == want) {
            right++;
        } else {
            wrong++;
            if (wrong <= 50) {
                System.out.println(call + " answered " + got + ", due is " + want);
            }
        }
    }

    void due(String call, boolean got, boolean want) {
        due(call, got ? 1 : 0, want ? 1 : 0);
    }

    void finish() {
        System.out.println(right + " passed, " + wrong + " failed");
        if (wrong != 0) {
            System.exit(1);
        }
    }

    /** Puts bytes on the tape; false when they have no room there. */
    static boolean lay(FlyingBars x, byte[] bytes) {
        int fed = 0;
        while (fed < bytes.length) {
            int[] words = new int[5];
            for (int i = 0; i < 20; i++) {
                int octet = fed + i < bytes.length ? bytes[fed + i] & 255 : 32;
                words[i / 4] = words[i / 4] << 8 | octet;
            }
            if (x.feed(words[0], words[1], words[2], words[3], words[4]) == FlyingBars.NONE) {
                return false;
            }
            fed += 20;
        }
        return x.end(bytes.length);
    }

    static int rig(FlyingBars x, String text) {
        byte[] bytes = new byte[text.length()];
        for (int i = 0; i < bytes.length; i++) {
            bytes[i] = (byte) text.charAt(i);
        }
        if (!lay(x, bytes)) {
            throw new IllegalStateException("no room for " + text);
        }
        return x.rig();
    }

    static FlyingBars made(String text) {
        FlyingBars x = new FlyingBars();
        if (rig(x, text) == FlyingBars.NONE) {
            throw new IllegalStateException("fault " + x.fault(0) + " at " + x.fault(1) + ": " + text);
        }
        return x;
    }

    /** The bytes of the image of the bill. */
    static byte[] imageOf(FlyingBars x) {
        byte[] bytes = new byte[x.image()];
        for (int i = 0; i < bytes.length; i++) {
            bytes[i] = (byte) x.octet(i);
        }
        return bytes;
    }

    /** The bytes of an image told as numbers, with the last byte added. */
    static byte[] sealed(int... numbers) {
        byte[] bytes = new byte[numbers.length + 1];
        int c = 9;
        for (int i = 0; i < numbers.length; i++) {
            bytes[i] = (byte) numbers[i];
            c = (5 * c + numbers[i]) % 241;
        }
        bytes[numbers.length] = (byte) c;
        return bytes;
    }

    static boolean readImage(FlyingBars x, byte[] bytes) {
        x.end(0);
        return lay(x, bytes) && x.on();
    }
}
