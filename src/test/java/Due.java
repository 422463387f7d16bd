/** Holds answers against those that are due and counts the others. */
final class Due {
    /** A call that may throw. */
    interface Call {
        Object make();
    }

    private final String title;
    private int asked;
    private int wrong;

    Due(String title) {
        this.title = title;
    }

    void is(String call, Object got, Object want) {
        asked++;
        if (!got.equals(want)) {
            tell(call + " answered " + got + ", due is " + want);
        }
    }

    void fails(String call, Class<? extends Exception> want, Call made) {
        asked++;
        try {
            tell(call + " answered " + made.make() + ", due is " + want.getSimpleName());
        } catch (RuntimeException thrown) {
            if (thrown.getClass() != want) {
                tell(call + " threw " + thrown + ", due is " + want.getSimpleName());
            }
        }
    }

    void outOfBounds(String call, Call made) {
        fails(call, IndexOutOfBoundsException.class, made);
    }

    void noNumber(String call, Call made) {
        fails(call, IllegalArgumentException.class, made);
    }

    void tell(String words) {
        wrong++;
        if (wrong <= 40) {
            System.out.println(title + ": " + words);
        }
    }

    boolean isClean() {
        return wrong == 0;
    }

    /** Ends the program with 1 if an answer was not as due. */
    void close() {
        System.out.println(title + ": " + asked + " answers, " + wrong + " not as due");
        if (wrong != 0 || asked == 0) {
            System.exit(1);
        }
    }
}
