/**
 * Counts answers that are as due, each under the sentence of the document that it is for; prints those that are not.
 * A sentence under which nothing was tried counts as wrong.
 */
final class Edges {
    interface Setup {
        Watched make();
    }

    interface Call {
        long on(Watched x);
    }

    private String sentence = "";
    private int tried;
    private int right;
    private int wrong;

    /** What follows is for this sentence; where is "Promise 2", "Terms I" and the like. */
    void of(String where, String words) {
        close();
        sentence = where + ": \"" + words + "\"";
        tried = 0;
    }

    private void close() {
        if (tried == 0 && !sentence.isEmpty()) {
            tell("nothing was tried");
        }
    }

    private void tell(String what) {
        wrong++;
        if (wrong <= 60) {
            System.out.println(sentence + ": " + what);
        }
    }

    void due(String call, long got, long want) {
        tried++;
        if (got == want) {
            right++;
        } else {
            tell(call + " answered " + got + ", due is " + want);
        }
    }

    void due(String call, boolean got, boolean want) {
        due(call, got ? 1 : 0, want ? 1 : 0);
    }

    void due(String call, String got, String want) {
        due(call + (got.equals(want) ? "" : " shows\n" + got + "due is\n" + want + "the same"), got.equals(want), true);
    }

    /** What a call at a place shows: the answers in a row are those due. */
    void row(String call, int[] got, int... want) {
        due(call, java.util.Arrays.toString(got), java.util.Arrays.toString(want));
    }

    /** The call answers so, and all that other calls show is as it is without the call. */
    void stays(String call, Setup setup, long want, Call made) {
        String before = setup.make().look();
        Watched x = setup.make();
        due(call, made.on(x), want);
        due("what is there behind " + call, x.look(), before);
    }

    void finish() {
        close();
        System.out.println(right + " passed, " + wrong + " failed");
        if (wrong != 0) {
            System.exit(1);
        }
    }
}
