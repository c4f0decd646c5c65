import java.util.NoSuchElementException;
import java.util.function.IntPredicate;
import java.util.function.IntToLongFunction;

/** Counts answers that are as due and prints those that are not. */
final class Check {

    /** A call whose answer, or exception, is looked at. */
    interface Call {
        long answer();
    }

    private static final int MOST_PRINTED = 40;

    private int right;
    private int wrong;
    private String test = "";

    /** Names the test that the answers from now on belong to. */
    void within(String name) {
        test = name.isEmpty() ? "" : name + ": ";
    }

    void same(String call, long got, long due) {
        note(got == due, call + " answered " + got + ", due is " + due);
    }

    void yes(String call, boolean got) {
        note(got, call + " answered false, due is true");
    }

    void no(String call, boolean got) {
        note(!got, call + " answered true, due is false");
    }

    void noSuch(String call, Call asked) {
        try {
            note(false, call + " answered " + asked.answer() + ", due is NoSuchElementException");
        } catch (NoSuchElementException e) {
            note(e.getClass() == NoSuchElementException.class, call + " threw " + e);
        }
    }

    /** A call with 0, 1, 2 and so on answers these, one by one. */
    void row(String call, IntToLongFunction asked, long... due) {
        for (int i = 0; i < due.length; i++) {
            same(call + " for " + i, asked.applyAsLong(i), due[i]);
        }
    }

    /** A call with each of these numbers answers the same. */
    void allSame(String call, int[] numbers, IntToLongFunction asked, long due) {
        for (int number : numbers) {
            same(call + " for " + number, asked.applyAsLong(number), due);
        }
    }

    void allNo(String call, int[] numbers, IntPredicate asked) {
        for (int number : numbers) {
            no(call + " for " + number, asked.test(number));
        }
    }

    void allNoSuch(String call, int[] numbers, IntToLongFunction asked) {
        for (int number : numbers) {
            noSuch(call + " for " + number, () -> asked.applyAsLong(number));
        }
    }

    void note(boolean asDue, String told) {
        if (asDue) {
            right++;
            return;
        }
        wrong++;
        if (wrong <= MOST_PRINTED) {
            System.out.println(test + told);
        }
    }

    /** Tells how it went; the exit code is 1, if one answer was not as due. */
    void end(String name) {
        System.out.println(name + ": " + right + " answers as due, " + wrong + " not");
        if (wrong > 0 || right == 0) {
            System.exit(1);
        }
    }
}
