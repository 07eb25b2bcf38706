/** Counts what is as due and prints what is not. */
final class Check {
    static final Class<? extends RuntimeException> INDEX = IndexOutOfBoundsException.class;
    static final Class<? extends RuntimeException> ARGUMENT = IllegalArgumentException.class;
    static final Class<? extends RuntimeException> STATE = IllegalStateException.class;
    static int right = 0;
    static int wrong = 0;

    /** Makes a swarm in the state in which a call is tried; a new one each time, and always the same. */
    interface Scenery {
        ShelfSwarm made();
    }

    interface Call {
        long answer(ShelfSwarm x);
    }

    private Check() {
    }

    static void due(String what, long got, long want) {
        if (got == want) {
            right++;
        } else {
            wrong++;
            System.out.println(what + ": answered " + got + ", due is " + want);
        }
    }

    static void due(String what, boolean got, boolean want) {
        due(what, got ? 1 : 0, want ? 1 : 0);
    }

    static void due(String what, String got, String want) {
        boolean same = got.equals(want);
        due(what, same, true);
        if (!same) {
            System.out.println("  got:  " + got + "\n  want: " + want);
        }
    }

    /** The call on a new swarm throws nothing and answers what is due. */
    static void taken(String what, Scenery scenery, Call call, long want) {
        ShelfSwarm x = scenery.made();
        try {
            due(what, call.answer(x), want);
        } catch (RuntimeException e) {
            due(what + ", but threw " + e, true, false);
        }
    }

    /**
     * The call on a new swarm throws the exception, and the swarm is then as another new one is on
     * which the call was not tried. Two swarms are used, as one is good for 512 calls only.
     */
    static void refused(String what, Scenery scenery, Class<? extends RuntimeException> want, Call call) {
        ShelfSwarm tried = scenery.made();
        due(what + " is refused", thrown(tried, call), want.getSimpleName());
        ShelfSwarm spared = scenery.made();
        due(what + " changes nothing", Snapshot.of(tried), Snapshot.of(spared));
        due(what + " changes nothing of what comes", Snapshot.later(tried), Snapshot.later(spared));
    }

    /** What the program itself throws; an exception of the Java machine or library is told as a wrong one. */
    static String thrown(ShelfSwarm x, Call call) {
        try {
            return "nothing, but answered " + call.answer(x);
        } catch (RuntimeException e) {
            boolean isItsOwn = e.getStackTrace()[0].getClassName().startsWith("ShelfSwarm");
            return isItsOwn ? e.getClass().getSimpleName() : e.toString();
        }
    }
}
