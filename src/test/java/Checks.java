/** What the tests share: an answer or an exception is compared with the one that is due. */
final class Checks {
    interface Call {
        Object answer();
    }

    static final Class<?> INDEX = IndexOutOfBoundsException.class;
    static final Class<?> ARGUMENT = IllegalArgumentException.class;
    static final Class<?> STATE = IllegalStateException.class;

    private int wrong = 0;
    private int promise = 0;

    void promise(int number) {
        promise = number;
    }

    void due(Object want, Object got) {
        if (!want.equals(got)) {
            fail("answered " + got + ", due is " + want);
        }
    }

    /** The very exception is due: what the machine throws has a class below it. */
    void dueThrow(Class<?> want, Call call) {
        Object got;
        try {
            got = call.answer();
        } catch (RuntimeException e) {
            got = e.getClass();
        }
        if (got != want) {
            fail("answered " + got + ", due is " + want);
        }
    }

    private void fail(String text) {
        wrong++;
        StackTraceElement[] trace = new Throwable().getStackTrace();
        int line = 0;
        for (StackTraceElement at : trace) {
            boolean isHelper = at.getClassName().equals("Checks") || at.getClassName().equals("Edges");
            if (line == 0 && !isHelper) {
                line = at.getLineNumber();
            }
        }
        System.out.println("promise " + promise + ", line " + line + ": " + text);
    }

    /** All that can be asked, but the SLIP and what undo() leaves as it is. */
    static String tellAll(Ditchright x) {
        StringBuilder t = new StringBuilder();
        for (int what = 0; what <= 10; what++) {
            t.append(what >= 6 && what <= 8 ? "" : x.house(what) + " ");
        }
        for (int k = 0; k < x.house(0); k++) {
            for (int what = 0; what <= 10; what++) {
                t.append(x.ofReach(k, what)).append(' ');
            }
        }
        for (int k = 0; k < x.house(1); k++) {
            for (int what = 0; what <= 7; what++) {
                t.append(x.ofGate(k, what)).append(' ');
            }
        }
        for (int k = 0; k < x.house(2); k++) {
            t.append("\nright ").append(k).append(": ");
            for (int what = 0; what <= 10; what++) {
                t.append(x.ofRight(k, what)).append(' ');
            }
            t.append(x.share(k, true)).append(' ').append(x.share(k, false)).append(' ').append(x.why(k)).append(' ');
            t.append(x.calls(k)).append(' ').append(x.surety(k)).append(' ').append(x.sure(k, 2)).append(' ');
            for (int ago = 1; ago <= 5; ago++) {
                t.append(x.had(k, ago)).append(' ');
            }
        }
        for (int k = 0; k < x.house(9); k++) {
            for (int what = 0; what <= 7; what++) {
                t.append(x.ofPond(k, what)).append(' ');
            }
        }
        for (int k = 0; k < x.house(10); k++) {
            for (int what = 0; what <= 3; what++) {
                t.append(x.ofWell(k, what)).append(' ');
            }
        }
        for (int k = 0; k < x.house(5); k++) {
            t.append(x.portion(1, k, 100)).append(' ').append(x.hours(k, false)).append(' ');
        }
        for (int hour = 0; hour < 24; hour++) {
            t.append(x.hour(hour, false)).append(' ');
        }
        return t.toString();
    }

    void end() {
        if (wrong > 0) {
            System.exit(1);
        }
    }
}
