/** Edges of the promises 16 to 19: days, years, measures. */
public final class EdgesOfDaysTest {
    private static final Edges E = new Edges();
    private static final Class<?> INDEX = Checks.INDEX;
    private static final Class<?> ARGUMENT = Checks.ARGUMENT;
    private static final Class<?> STATE = Checks.STATE;

    public static void main(String[] args) {
        runNumbers();
        runTwentyIsTwentyTimesOne();
        runCountsAllButFish();
        yearNumbers();
        yearOfEachReach();
        yearFull();
        yearFirstNamed();
        forgetEmptyAndFull();
        measureNumbers();
        measureKinds();
        measureWasNotThere();
        measureFirstNamed();
        measureOfTheLastFiveDays();
        E.end();
    }

    private static void runNumbers() {
        E.promise(16);
        E.range(ARGUMENT, Rivers.EMPTY, 1, 20, (x, n) -> x.run(n));
        E.range(ARGUMENT, Rivers.SOME, 1, 20, (x, n) -> x.run(n));
        E.range(ARGUMENT, Rivers.FULL, 1, 20, (x, n) -> x.run(n));
        E.step(Rivers.SOME, x -> x.run(1));
        E.step(Rivers.SOME, x -> x.run(20));
        Ditchright x = new Ditchright();
        for (int k = 1; k <= 60; k++) {
            E.due(0, x.run(20));
            E.due(20 * k, x.house(3));
        }
        // However many DAYS, it is one STEP.
        E.due(8, x.house(6));
        x.undo();
        E.due(1180, x.house(3));
    }

    private static void runTwentyIsTwentyTimesOne() {
        Ditchright x = Rivers.SOME.made();
        Ditchright y = Rivers.SOME.made();
        int all = 0;
        for (int k = 0; k < 20; k++) {
            all += y.run(1);
        }
        E.due(all, x.run(20));
        E.due(8, x.house(6));
        E.due(y.digest(), x.digest());
    }

    private static void runCountsAllButFish() {
        Ditchright x = Rivers.GATE.made();
        x.fish(0, 30);
        E.due(0, x.run(20));
        E.due(30, x.had(0, 1));
        x.born(0, 999);
        x.right(0, 4, 15);
        x.pond(0, 5);
        // 4 and 5 on the first DAY; the STORE's tenth of 5 is nothing, so that no more goes in.
        E.due(9, x.run(1));
        E.due(4, x.run(1));
        E.due(0, x.ofRight(2, 6));
    }

    private static int yearWith(Ditchright x, int place, int tenths) {
        int[] t = new int[6];
        t[place] = tenths;
        return x.year(t[0], t[1], t[2], t[3], t[4], t[5]);
    }

    private static void yearNumbers() {
        E.promise(17);
        for (int k = 0; k < 6; k++) {
            int place = k;
            // Also for REACHES that are not there.
            E.range(ARGUMENT, Rivers.EMPTY, 0, 20, (x, n) -> yearWith(x, place, n));
            E.range(ARGUMENT, Rivers.SOME, 0, 20, (x, n) -> yearWith(x, place, n));
        }
        E.step(Rivers.SOME, x -> x.year(20, 20, 20, 20, 20, 20));
        // Tenths for a REACH that comes only later.
        Ditchright x = new Ditchright();
        E.due(0, x.year(0, 0, 0, 0, 0, 20));
        for (int k = 0; k < 6; k++) {
            x.reach(-1, 20, 0, 0);
            x.gate(k, 0, 40, 0);
            x.right(k, 40, 15);
        }
        for (int k = 0; k < 6; k++) {
            E.due(k == 5 ? 40 : 0, x.sure(k, 1));
        }
    }

    /** Each of the six tenths is that of its own REACH alone. */
    private static void yearOfEachReach() {
        for (int k = 0; k < 6; k++) {
            Ditchright x = new Ditchright();
            for (int reach = 0; reach < 6; reach++) {
                x.reach(-1, 20, 0, 0);
                x.gate(reach, 0, 40, 0);
                x.right(reach, 40, 15);
            }
            yearWith(x, k, 20);
            for (int right = 0; right < 6; right++) {
                E.due(right == k ? 40 : 0, x.sure(right, 1));
            }
        }
    }

    private static void yearFull() {
        E.fills(Rivers.EMPTY, 0, 4, (x, n) -> x.year(0, 0, 0, 0, 0, 0));
        E.fills(Rivers.SOME, 2, 4, (x, n) -> x.year(20, 20, 20, 20, 20, 20));
        E.out(STATE, Rivers.FULL, x -> x.year(0, 0, 0, 0, 0, 0));
        // All of them go, and then four more are in, from 0 on.
        Ditchright x = Rivers.FULL.made();
        E.due(4, x.forget());
        for (int k = 0; k < 4; k++) {
            E.due(k, x.year(1, 1, 1, 1, 1, 1));
        }
        E.dueThrow(STATE, () -> x.year(1, 1, 1, 1, 1, 1));
    }

    private static void yearFirstNamed() {
        for (int k = 0; k < 6; k++) {
            int place = k;
            E.out(ARGUMENT, Rivers.FULL, x -> yearWith(x, place, 21));
            E.out(ARGUMENT, Rivers.FULL, x -> yearWith(x, place, -1));
        }
    }

    private static void forgetEmptyAndFull() {
        E.promise(18);
        E.in(0, Rivers.EMPTY, Ditchright::forget);
        E.in(2, Rivers.SOME, Ditchright::forget);
        E.in(4, Rivers.FULL, Ditchright::forget);
        E.step(Rivers.EMPTY, Ditchright::forget);
        E.step(Rivers.SOME, Ditchright::forget);
        Ditchright x = Rivers.SOME.made();
        x.forget();
        E.due(0, x.house(4));
        for (int right = 0; right < 5; right++) {
            E.due(0, x.sure(right, 0));
            E.due(-1, x.sure(right, 1));
            E.due(-1, x.sure(right, 2));
            E.due("-", x.surety(right));
        }
        E.due(0, x.forget());
        x.undo();
        x.undo();
        E.due(2, x.house(4));
        E.due(2, x.year(0, 0, 0, 0, 0, 0));
    }

    private static void measureNumbers() {
        E.promise(19);
        Edges.Build long5 = () -> {
            Ditchright x = Rivers.SOME.made();
            x.run(3);
            return x;
        };
        E.out(INDEX, Rivers.SOME, x -> x.measure(5, 1, 0));
        E.out(INDEX, Rivers.SOME, x -> x.measure(-1, 1, 0));
        E.out(INDEX, Rivers.FULL, x -> x.measure(10, 0, 41));
        E.range(ARGUMENT, long5, 1, 5, (x, n) -> x.measure(0, n, 1));
        E.range(ARGUMENT, long5, 0, 40, (x, n) -> x.measure(0, 5, n));
        E.step(Rivers.SOME, x -> x.measure(0, 1, 40));
        E.step(Rivers.SOME, x -> x.measure(0, 3, 0));
        // It may be more than SUM, BOUND, or what was there.
        Ditchright x = Rivers.GATE.made();
        x.right(0, 1, 15);
        x.run(1);
        E.due(39, x.measure(0, 1, 40));
        E.due(40, x.had(0, 1));
        E.due(-1, x.measure(0, 1, 0));
        E.due(0, x.had(0, 1));
        E.due(-1, x.measure(0, 1, 0));
        E.due(0, x.measure(0, 1, 1));
    }

    private static void measureKinds() {
        for (int right : new int[] {1, 2, 4}) {
            E.out(ARGUMENT, Rivers.SOME, x -> x.measure(right, 1, 1));
        }
        // What is GONE is measured still.
        E.in(7, Rivers.GONE, x -> x.measure(0, 1, 7));
        E.in(7, Rivers.GONE, x -> x.measure(0, 5, 7));
    }

    private static void measureWasNotThere() {
        Edges.Build fresh = () -> {
            Ditchright x = Rivers.GATE.made();
            x.right(0, 3, 15);
            return x;
        };
        E.out(STATE, fresh, x -> x.measure(0, 1, 3));
        E.out(STATE, fresh, x -> x.measure(0, 5, 3));
        Edges.Build later = () -> {
            Ditchright x = fresh.made();
            x.run(2);
            x.right(0, 4, 15);
            x.born(1, 0);
            x.run(2);
            x.split(0, 1);
            return x;
        };
        // RIGHT 0 was there on all of the four DAYS, 1 on two, 2 on none, whatever BORN says.
        int[] days = {4, 2, 0};
        for (int k = 0; k < 3; k++) {
            int right = k;
            for (int ago = 1; ago <= 5; ago++) {
                int asked = ago;
                if (ago > days[k]) {
                    E.out(STATE, later, x -> x.measure(right, asked, 3));
                } else {
                    E.in(k == 0 ? 0 : -1, later, x -> x.measure(right, asked, 3));
                }
            }
        }
        // One DAY more, and the fifth one is there; behind undo() it is not.
        Ditchright x = later.made();
        x.run(1);
        E.due(0, x.measure(0, 5, 3));
        E.due(-1, x.measure(1, 3, 3));
        E.dueThrow(STATE, () -> x.measure(1, 4, 3));
        E.due(0, x.measure(2, 1, 1));
        x.undo();
        x.undo();
        x.undo();
        x.undo();
        E.dueThrow(STATE, () -> x.measure(0, 5, 3));
        E.dueThrow(STATE, () -> x.measure(2, 1, 1));
    }

    private static void measureFirstNamed() {
        Edges.Build fresh = () -> {
            Ditchright x = Rivers.GATE.made();
            x.right(0, 3, 15);
            x.fish(0, 3);
            return x;
        };
        E.out(INDEX, fresh, x -> x.measure(2, 6, 41));
        E.out(ARGUMENT, fresh, x -> x.measure(1, 1, 1));
        E.out(ARGUMENT, fresh, x -> x.measure(0, 6, 1));
        E.out(ARGUMENT, fresh, x -> x.measure(0, 0, 1));
        E.out(ARGUMENT, fresh, x -> x.measure(0, 1, 41));
        E.out(ARGUMENT, fresh, x -> x.measure(0, 1, -1));
    }

    /** The DAY moves on with each DAY that ends, and is told no more behind the fifth one. */
    private static void measureOfTheLastFiveDays() {
        Ditchright x = Rivers.GATE.made();
        x.right(0, 3, 15);
        x.run(1);
        E.due(6, x.measure(0, 1, 9));
        for (int ago = 2; ago <= 5; ago++) {
            x.run(1);
            E.due(9, x.had(0, ago));
        }
        // 3 of the DEBT of 6 went on each of two DAYS.
        E.due(0, x.ofRight(0, 7));
        E.due(0, x.had(0, 4));
        E.due(0, x.had(0, 3));
        E.due(3, x.had(0, 2));
        E.due(-9, x.measure(0, 5, 0));
        x.run(1);
        E.due(0, x.had(0, 5));
        E.due(3, x.had(0, 1));
        E.due(-9, x.ofRight(0, 7));
        // A DEBT of -9 is not what is counted as REFUSED.
        E.due(0, x.house(7));
    }
}
