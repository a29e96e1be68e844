/** Counts the calls whose answer is not the one that is due, and prints them. */
final class Check {
    interface Call {
        void run();
    }

    private final String title;
    private int wrong = 0;
    private int asked = 0;

    Check(String title) {
        this.title = title;
    }

    void due(String call, long got, long want) {
        asked++;
        if (got != want) {
            wrong++;
            System.out.println(title + ": " + call + " answered " + got + ", due is " + want);
        }
    }

    void due(String call, boolean got, boolean want) {
        due(call, got ? 1 : 0, want ? 1 : 0);
    }

    void due(String call, String got, String want) {
        asked++;
        if (!got.equals(want)) {
            wrong++;
            System.out.println(title + ": " + call + " answered " + got + ", due is " + want);
        }
    }

    void noSuch(String call, Call made) {
        due(call, thrownBy(made), "IndexOutOfBoundsException");
    }

    void outOfRange(String call, Call made) {
        due(call, thrownBy(made), "IllegalArgumentException");
    }

    void notNow(String call, Call made) {
        due(call, thrownBy(made), "IllegalStateException");
    }

    static String thrownBy(Call made) {
        try {
            made.run();
            return "nothing";
        } catch (RuntimeException thrown) {
            return nameOf(thrown);
        }
    }

    /** Tells what the yard throws itself from what the machine or the library throws in it. */
    static String nameOf(RuntimeException thrown) {
        StackTraceElement[] trace = thrown.getStackTrace();
        boolean isOwn = trace.length > 0 && trace[0].getClassName().matches("(Charge|Plain)Yard");
        return thrown.getClass().getSimpleName() + (isOwn ? "" : ", and not by a throw");
    }

    /** Ends the program with 1 if an answer was wrong. */
    void end() {
        System.out.println(title + ": " + asked + " asked, " + wrong + " wrong");
        if (wrong != 0) {
            System.exit(1);
        }
    }
}
