/** Counts answers that are as due and prints those that are not. */
final class Checks {
    private int right;
    private int wrong;

    void due(String call, long got, long want) {
        if (got == want) {
            right++;
        } else {
            wrong++;
            if (wrong <= 50) {
                System.out.println(call + " answered " + got + ", due is " + want);
            }
        }
    }

    void due(String call, boolean got, boolean want) {
        due(call, got ? 1 : 0, want ? 1 : 0);
    }

    void finish() {
        System.out.println(right + " passed, " + wrong + " failed");
        if (wrong != 0) {
            System.exit(1);
        }
    }

    /** Puts bytes on the tape; false when they have no room there. */
    static boolean lay(FlyingBars x, byte[] bytes) {
        for (int fed = 0; fed < bytes.length; fed += 20) {
            int[] words = words(bytes, fed);
            if (x.feed(words[0], words[1], words[2], words[3], words[4]) == FlyingBars.NONE) {
                return false;
            }
        }
        return x.end(bytes.length);
    }

    /** Twenty bytes from a place on as five numbers, with blanks behind the last byte. */
    static int[] words(byte[] bytes, int from) {
        int[] words = new int[5];
        for (int i = 0; i < 20; i++) {
            int octet = from + i < bytes.length ? bytes[from + i] & 255 : 32;
            words[i / 4] = words[i / 4] << 8 | octet;
        }
        return words;
    }

    /** The bytes of the image of the bill. */
    static byte[] imageOf(FlyingBars x) {
        byte[] bytes = new byte[x.image()];
        for (int i = 0; i < bytes.length; i++) {
            bytes[i] = (byte) x.octet(i);
        }
        return bytes;
    }

    /** The bytes of an image told as numbers, with the last byte added. */
    static byte[] sealed(int... numbers) {
        byte[] bytes = new byte[numbers.length + 1];
        int c = 9;
        for (int i = 0; i < numbers.length; i++) {
            bytes[i] = (byte) numbers[i];
            c = (5 * c + numbers[i]) % 241;
        }
        bytes[numbers.length] = (byte) c;
        return bytes;
    }
}
