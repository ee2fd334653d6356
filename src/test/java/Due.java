/** Compares answers with those that are due, prints the wrong ones and counts them. */
final class Due {
    interface Call {
        long answer();
    }

    interface Act {
        void run();
    }

    static final Class<IllegalArgumentException> ARGUMENT = IllegalArgumentException.class;
    static final Class<IllegalStateException> STATE = IllegalStateException.class;
    static final Class<IndexOutOfBoundsException> INDEX = IndexOutOfBoundsException.class;

    private int right = 0;
    private int wrong = 0;

    void answers(String what, long want, Call call) {
        try {
            tell(what, "" + want, "" + call.answer());
        } catch (RuntimeException e) {
            tell(what, "" + want, "throws " + e);
        }
    }

    void says(String what, boolean want, boolean got) {
        tell(what, "" + want, "" + got);
    }

    /** The exception must be of the very class and thrown by the sheet itself, so that none of the machine passes. */
    void refuses(String what, Class<? extends RuntimeException> want, Act act) {
        try {
            act.run();
            tell(what, "throws " + want.getName(), "threw nothing");
        } catch (RuntimeException e) {
            String by = e.getStackTrace()[0].getClassName().startsWith("TakeoffSheet") ? "" : " of the machine";
            tell(what, "throws " + want.getName(), "throws " + e.getClass().getName() + by);
        }
    }

    private void tell(String what, String want, String got) {
        if (want.equals(got)) {
            right++;
        } else {
            wrong++;
            System.out.println("wrong: " + what + ": " + got + ", due is: " + want);
        }
    }

    void end(String test) {
        System.out.println(test + ": " + right + " answers as due, " + wrong + " not");
        if (wrong != 0 || right == 0) {
            System.exit(1);
        }
    }
}
