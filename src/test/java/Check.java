import java.util.NoSuchElementException;

/** Counts answers that are as due and prints those that are not. */
final class Check {

    /** A call whose answer, or exception, is looked at. */
    interface Call {
        long answer();
    }

    private static final int MOST_PRINTED = 40;

    private int right;
    private int wrong;

    void same(String call, long got, long due) {
        note(got == due, call + " answered " + got + ", due is " + due);
    }

    void yes(String call, boolean got) {
        note(got, call + " answered false, due is true");
    }

    void no(String call, boolean got) {
        note(!got, call + " answered true, due is false");
    }

    void noSuch(String call, Call asked) {
        try {
            note(false, call + " answered " + asked.answer() + ", due is NoSuchElementException");
        } catch (NoSuchElementException e) {
            note(e.getClass() == NoSuchElementException.class, call + " threw " + e);
        }
    }

    void note(boolean asDue, String told) {
        if (asDue) {
            right++;
            return;
        }
        wrong++;
        if (wrong <= MOST_PRINTED) {
            System.out.println(told);
        }
    }

    /** Tells how it went; the exit code is 1, if one answer was not as due. */
    void end(String name) {
        System.out.println(name + ": " + right + " answers as due, " + wrong + " not");
        if (wrong > 0 || right == 0) {
            System.exit(1);
        }
    }
}
