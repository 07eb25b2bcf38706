/** Counts what is as due and prints what is not. */
final class Check {
    static int right = 0;
    static int wrong = 0;

    interface Call {
        long answer();
    }

    private Check() {
    }

    static void due(String what, long got, long want) {
        if (got == want) {
            right++;
        } else {
            wrong++;
            System.out.println(what + " answered " + got + ", due is " + want);
        }
    }

    static void due(String what, boolean got, boolean want) {
        due(what, got ? 1 : 0, want ? 1 : 0);
    }

    static void due(String what, String got, String want) {
        boolean same = got.equals(want);
        due(what, same, true);
        if (!same) {
            System.out.println("  got:  " + got + "\n  want: " + want);
        }
    }

    /**
     * The program itself must throw the exception, not the Java machine or library for it, and leave
     * all that can be asked of the swarm as it was.
     */
    static void refused(String what, ShelfSwarm swarm, Class<? extends RuntimeException> want, Call call) {
        String before = Snapshot.of(swarm);
        String thrown = "nothing";
        try {
            call.answer();
        } catch (RuntimeException e) {
            boolean isItsOwn = e.getStackTrace()[0].getClassName().startsWith("ShelfSwarm");
            thrown = isItsOwn ? e.getClass().getSimpleName() : e.toString();
        }
        due(what + " throws", thrown, want.getSimpleName());
        due(what + " changes nothing", Snapshot.of(swarm), before);
    }

    static void refusedIndex(String what, ShelfSwarm swarm, Call call) {
        refused(what, swarm, IndexOutOfBoundsException.class, call);
    }

    static void refusedArgument(String what, ShelfSwarm swarm, Call call) {
        refused(what, swarm, IllegalArgumentException.class, call);
    }

    static void refusedState(String what, ShelfSwarm swarm, Call call) {
        refused(what, swarm, IllegalStateException.class, call);
    }
}
