import java.util.HashMap;
import java.util.Map;

/** Edges: what is still in, what is out, and that a call which is out leaves all as it was. */
final class Edges {
    interface Build {
        Ditchright made();
    }

    interface Use {
        Object of(Ditchright x);
    }

    interface NumberUse {
        Object of(Ditchright x, int number);
    }

    private final Checks checks = new Checks();
    private final Map<Build, String> untouched = new HashMap<>();

    void promise(int number) {
        checks.promise(number);
    }

    void due(Object want, Object got) {
        checks.due(want, got);
    }

    void dueThrow(Class<?> want, Checks.Call call) {
        checks.dueThrow(want, call);
    }

    void end() {
        checks.end();
    }

    /** The call answers this on an object just built. */
    void in(Object want, Build build, Use use) {
        checks.due(want, use.of(build.made()));
    }

    /** The call throws this, and all is as on an object on which it was not made. */
    void out(Class<?> want, Build build, Use use) {
        Ditchright x = build.made();
        checks.dueThrow(want, () -> use.of(x));
        Ditchright y = build.made();
        checks.dueThrow(want, () -> use.of(y));
        String now = onward(x) + backward(y);
        if (!now.equals(untouched.computeIfAbsent(build, b -> onward(b.made()) + backward(b.made())))) {
            checks.due("nothing changed", "something changed");
        }
    }

    /** The call answers -9, which house() counts, and all else is as on an object to which -7 was told. */
    void refused(Build build, Use use) {
        Ditchright[] x = {build.made(), build.made()};
        Ditchright[] y = {build.made(), build.made()};
        for (int k = 0; k < 2; k++) {
            int told = x[k].house(7);
            checks.due(-9, use.of(x[k]));
            checks.due(told + 1, x[k].house(7));
            x[k].wipe();
            y[k].wipe();
            y[k].type(12);
            checks.due(-7, y[k].read());
            y[k].wipe();
        }
        checks.due(onward(y[0]) + backward(y[1]), onward(x[0]) + backward(x[1]));
    }

    /** From least to most is in; one less, one more, and the ends of all numbers are out. */
    void range(Class<?> want, Build build, int least, int most, NumberUse use) {
        for (int number : new int[] {least, most}) {
            Object got = null;
            try {
                got = use.of(build.made(), number);
            } catch (RuntimeException e) {
                checks.due("an answer at " + number, e.getClass());
            }
            if (got == null) {
                checks.due("an answer at " + number, "none");
            }
        }
        for (int number : new int[] {least - 1, most + 1, Integer.MIN_VALUE, Integer.MAX_VALUE}) {
            out(want, build, x -> use.of(x, number));
        }
    }

    /** Numbers follow one another from first on; behind the last one it is full, and undo() makes room for just one. */
    void fills(Build build, int first, int most, NumberUse use) {
        Build filled = () -> {
            Ditchright x = build.made();
            for (int k = first; k < most; k++) {
                checks.due(k, use.of(x, k));
            }
            return x;
        };
        out(Checks.STATE, filled, x -> use.of(x, most));
        Ditchright x = filled.made();
        x.undo();
        checks.due(most - 1, use.of(x, most));
        checks.dueThrow(Checks.STATE, () -> use.of(x, most + 1));
    }

    /** A STEP is one more to undo (at most 8), and behind undo() all is as it was, also what shows tomorrow. */
    void step(Build build, Use use) {
        Ditchright x = build.made();
        int steps = x.house(6);
        use.of(x);
        checks.due(Math.min(8, steps + 1), x.house(6));
        checks.due(Math.min(7, steps), x.undo());
        Ditchright y = build.made();
        checks.due(Checks.tellAll(y), Checks.tellAll(x));
        Ditchright z = build.made();
        use.of(z);
        z.undo();
        Ditchright u = build.made();
        checks.due(tomorrow(u), tomorrow(z));
    }

    private static String tomorrow(Ditchright x) {
        StringBuilder text = new StringBuilder().append(x.slip()).append(' ').append(x.run(1)).append(' ');
        return text.append(Checks.tellAll(x)).toString();
    }

    /** What is to be seen now, some days later, and with one MEMBER more. */
    private static String onward(Ditchright x) {
        StringBuilder text = new StringBuilder(x.slip()).append('\n');
        look(text, x);
        text.append(x.run(1)).append('\n');
        look(text, x);
        text.append(x.run(5)).append('\n');
        if (x.house(5) < 5) {
            x.member(1, 1);
        }
        look(text, x);
        return text.toString();
    }

    private static void look(StringBuilder text, Ditchright x) {
        text.append(x.digest()).append(' ');
        for (int right = 0; right < x.house(2); right++) {
            text.append(x.byAge(right)).append(' ').append(x.why(right)).append(' ');
            text.append(x.calls(right)).append(' ').append(x.surety(right)).append(' ');
        }
        hours(text, x);
    }

    private static void hours(StringBuilder text, Ditchright x) {
        for (int hour = 0; hour < 24; hour++) {
            text.append(x.hour(hour, false)).append(' ');
        }
        text.append('\n');
    }

    /** What undo() brings back, STEP by STEP. */
    private static String backward(Ditchright x) {
        StringBuilder text = new StringBuilder();
        int steps = x.house(6);
        for (int k = 0; k < steps; k++) {
            text.append(x.undo()).append(' ').append(x.digest()).append(' ');
            hours(text, x);
        }
        try {
            text.append(x.undo());
        } catch (IllegalStateException e) {
            text.append("none");
        }
        return text.toString();
    }
}
