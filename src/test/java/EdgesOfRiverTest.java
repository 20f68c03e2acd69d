/** Edges of the promises 1 to 7: an empty valley, and the river. */
public final class EdgesOfRiverTest {
    private static final Edges E = new Edges();
    private static final Class<?> INDEX = Checks.INDEX;
    private static final Class<?> ARGUMENT = Checks.ARGUMENT;
    private static final Class<?> STATE = Checks.STATE;

    public static void main(String[] args) {
        nothingIsThere();
        nothingIsAnswered();
        reachNumbers();
        reachKeepsItsEnds();
        reachFull();
        reachFirstNamed();
        leadNumbers();
        leadBelowItself();
        leadBehindUndo();
        springNumbers();
        gateNumbers();
        gateTaken();
        gateFull();
        gateFirstNamed();
        wellNumbers();
        wellFull();
        pumpNumbers();
        E.end();
    }

    /** In a valley without a river there is no number 0 of anything, whatever else is told. */
    private static void nothingIsThere() {
        E.promise(1);
        Edges.Use[] uses = {
            x -> x.reach(0, 99, 99, 99), x -> x.lead(0, 0), x -> x.lead(0, -1), x -> x.spring(0, 99), x -> x.gate(0, 99, 99, 99),
            x -> x.well(0, 99), x -> x.pump(0, 99), x -> x.right(0, 99, 99), x -> x.fish(0, 99), x -> x.pond(0, 99),
            x -> x.wish(0, 99), x -> x.born(0, 9999), x -> x.split(0, 99), x -> x.raise(0, 99), x -> x.move(0, 0, 99),
            x -> x.measure(0, 99, 99), x -> x.let(0, 0, 99), x -> x.carry(0, 0, 0), x -> x.sell(99, 0),
            x -> x.share(0, true), x -> x.share(0, false), x -> x.byAge(0), x -> x.why(0), x -> x.calls(0),
            x -> x.harms(0, 0, 99), x -> x.greatest(0, 0), x -> x.sure(0, 99), x -> x.surety(0), x -> x.ofReach(0, 99),
            x -> x.ofGate(0, 99), x -> x.ofRight(0, 99), x -> x.had(0, 99), x -> x.ofPond(0, 99), x -> x.ofWell(0, 99),
            x -> x.portion(99, 0, 9999), x -> x.hours(0, true), x -> x.hours(0, false),
        };
        for (Edges.Use use : uses) {
            E.out(INDEX, Rivers.EMPTY, use);
        }
    }

    private static void nothingIsAnswered() {
        for (int what = 0; what <= 10; what++) {
            int asked = what;
            E.in(0, Rivers.EMPTY, x -> x.house(asked));
        }
        for (int what = 0; what <= 4; what++) {
            int asked = what;
            E.in(0, Rivers.EMPTY, x -> x.balance(asked));
        }
        for (int hour = 0; hour <= 23; hour++) {
            int asked = hour;
            E.in(-1, Rivers.EMPTY, x -> x.hour(asked, true));
            E.in(-1, Rivers.EMPTY, x -> x.hour(asked, false));
        }
        E.in(0, Rivers.EMPTY, x -> x.run(20));
        E.in(0, Rivers.EMPTY, Ditchright::forget);
        E.in(-1, Rivers.EMPTY, x -> x.feast(1));
        E.in(0, Rivers.EMPTY, Ditchright::round);
        E.in(0, Rivers.EMPTY, Ditchright::wipe);
        E.in(0, Rivers.EMPTY, Ditchright::read);
        E.in(1, Rivers.EMPTY, Ditchright::knock);
        E.in(-1, Rivers.EMPTY, Ditchright::fault);
        E.in("", Rivers.EMPTY, Ditchright::slip);
        E.in(true, Rivers.EMPTY, Ditchright::isSound);
        E.out(STATE, Rivers.EMPTY, Ditchright::undo);
        E.out(STATE, Rivers.EMPTY, x -> x.swap(0, 23));
    }

    private static void reachNumbers() {
        E.promise(2);
        E.range(INDEX, Rivers.EMPTY, -1, -1, (x, n) -> x.reach(n, 1, 1, 1));
        E.range(INDEX, Rivers.SOME, -1, 2, (x, n) -> x.reach(n, 1, 1, 1));
        E.range(ARGUMENT, Rivers.SOME, 0, 60, (x, n) -> x.reach(0, n, 1, 1));
        E.range(ARGUMENT, Rivers.SOME, 0, 5, (x, n) -> x.reach(0, 1, n, 1));
        E.range(ARGUMENT, Rivers.SOME, 0, 3, (x, n) -> x.reach(0, 1, 1, n));
        E.step(Rivers.SOME, x -> x.reach(2, 60, 5, 3));
    }

    private static void reachKeepsItsEnds() {
        int[][] ends = {{-1, 0, 0, 0}, {-1, 60, 5, 3}, {2, 0, 5, 0}};
        for (int[] end : ends) {
            Ditchright x = Rivers.SOME.made();
            E.due(3, x.reach(end[0], end[1], end[2], end[3]));
            for (int what = 0; what <= 3; what++) {
                E.due(end[what], x.ofReach(3, what));
            }
            E.due(end[1], x.ofReach(3, 4));
            E.due(end[1] * end[2] / 10, x.ofReach(3, 6));
            E.due(0, x.ofReach(3, 10));
        }
    }

    private static void reachFull() {
        E.fills(Rivers.EMPTY, 0, 6, (x, n) -> x.reach(-1, 60, 0, 0));
        E.fills(Rivers.SOME, 3, 6, (x, n) -> x.reach(n > 5 ? 0 : n - 1, 1, 1, 1));
        E.out(STATE, Rivers.FULL, x -> x.reach(-1, 0, 0, 0));
        E.out(STATE, Rivers.FULL, x -> x.reach(5, 0, 0, 0));
        // Springs of six REACHES together.
        Ditchright x = new Ditchright();
        for (int k = 0; k < 6; k++) {
            x.reach(k - 1, 60, 0, 3);
        }
        E.due(360, x.ofReach(0, 5));
        E.due(360, x.balance(4));
        E.due(18, x.ofReach(5, 9));
        E.due(3, x.ofReach(0, 9));
    }

    private static void reachFirstNamed() {
        E.out(INDEX, Rivers.FULL, x -> x.reach(6, 61, 6, 4));
        E.out(INDEX, Rivers.FULL, x -> x.reach(-2, 1, 1, 1));
        E.out(INDEX, Rivers.SOME, x -> x.reach(3, -1, 1, 1));
        E.out(ARGUMENT, Rivers.FULL, x -> x.reach(0, 61, 1, 1));
        E.out(ARGUMENT, Rivers.FULL, x -> x.reach(0, 1, -1, 1));
        E.out(ARGUMENT, Rivers.FULL, x -> x.reach(0, 1, 1, 4));
    }

    private static void leadNumbers() {
        E.promise(3);
        E.range(INDEX, Rivers.SOME, 0, 2, (x, n) -> x.lead(n, -1));
        E.range(INDEX, Rivers.SOME, -1, 1, (x, n) -> x.lead(2, n == 2 ? 3 : n));
        E.range(INDEX, Rivers.FULL, 0, 5, (x, n) -> x.lead(n, -1));
        // Also where it flows already.
        E.in(0, Rivers.SOME, x -> x.lead(1, 0));
        E.in(-1, Rivers.SOME, x -> x.lead(0, -1));
        E.in(0, Rivers.SOME, x -> x.lead(1, 2));
        E.step(Rivers.SOME, x -> x.lead(1, 0));
        E.step(Rivers.SOME, x -> x.lead(2, 1));
        E.out(INDEX, Rivers.SOME, x -> x.lead(3, 3));
        E.out(INDEX, Rivers.SOME, x -> x.lead(-1, -1));
        E.out(INDEX, Rivers.SOME, x -> x.lead(0, 3));
    }

    /** Six REACHES in a row: 5 flows into 4, and so on down to 0. */
    private static Ditchright row() {
        Ditchright x = new Ditchright();
        for (int k = 0; k < 6; k++) {
            x.reach(k - 1, 10, 0, 0);
        }
        return x;
    }

    private static void leadBelowItself() {
        Edges.Build row = EdgesOfRiverTest::row;
        for (int reach = 0; reach < 6; reach++) {
            for (int down = 0; down < 6; down++) {
                int from = reach;
                int to = down;
                if (down >= reach) {
                    // Once round by itself, by one more, or by up to all six.
                    E.out(STATE, row, x -> x.lead(from, to));
                } else {
                    E.in(reach - 1, row, x -> x.lead(from, to));
                }
            }
        }
        Ditchright x = row();
        x.lead(1, -1);
        E.due(-1, x.lead(0, 5));
        E.due(60, x.ofReach(1, 5));
        E.dueThrow(STATE, () -> x.lead(1, 0));
    }

    private static void leadBehindUndo() {
        Ditchright x = row();
        x.lead(3, -1);
        E.due(-1, x.lead(0, 5));
        x.undo();
        E.due(-1, x.lead(0, 3));
        x.undo();
        x.undo();
        E.dueThrow(STATE, () -> x.lead(0, 3));
        E.dueThrow(STATE, () -> x.lead(0, 5));
        E.due(60, x.ofReach(0, 5));
    }

    private static void springNumbers() {
        E.promise(4);
        E.range(INDEX, Rivers.SOME, 0, 2, (x, n) -> x.spring(n, 1));
        E.range(INDEX, Rivers.FULL, 0, 5, (x, n) -> x.spring(n, 1));
        E.range(ARGUMENT, Rivers.SOME, 0, 60, (x, n) -> x.spring(1, n));
        E.out(INDEX, Rivers.SOME, x -> x.spring(3, 61));
        E.out(INDEX, Rivers.SOME, x -> x.spring(-1, -1));
        E.step(Rivers.SOME, x -> x.spring(1, 60));
        E.step(Rivers.SOME, x -> x.spring(1, 30));
        Ditchright x = Rivers.SOME.made();
        E.due(10, x.spring(2, 0));
        E.due(0, x.ofReach(2, 5));
        E.due(0, x.spring(2, 60));
        E.due(60, x.ofReach(2, 5));
        E.due(60, x.spring(2, 60));
    }

    private static void gateNumbers() {
        E.promise(5);
        E.range(INDEX, Rivers.SOME, 0, 2, (x, n) -> x.gate(n, 5, 1, 0));
        E.range(ARGUMENT, Rivers.GATE, 0, 9, (x, n) -> x.gate(0, n, 1, 0));
        E.range(ARGUMENT, Rivers.SOME, 1, 40, (x, n) -> x.gate(0, 0, n, 0));
        E.range(ARGUMENT, Rivers.SOME, 0, 10, (x, n) -> x.gate(0, 0, 1, n));
        E.step(Rivers.SOME, x -> x.gate(0, 0, 40, 10));
        int[][] ends = {{0, 0, 1, 0}, {0, 9, 40, 10}};
        for (int[] end : ends) {
            Ditchright x = Rivers.GATE.made();
            E.due(1, x.gate(end[0], end[1], end[2], end[3]));
            for (int what = 0; what <= 3; what++) {
                E.due(end[what], x.ofGate(1, what));
            }
            E.due(2, x.ofReach(0, 10));
        }
    }

    /** Just one at each REACH and MILE. */
    private static void gateTaken() {
        E.out(STATE, Rivers.GATE, x -> x.gate(0, 5, 40, 10));
        E.in(1, Rivers.GATE, x -> x.gate(0, 4, 40, 10));
        E.in(1, Rivers.GATE, x -> x.gate(0, 6, 40, 10));
        E.in(4, Rivers.SOME, x -> x.gate(2, 3, 1, 0));
        E.out(STATE, Rivers.SOME, x -> x.gate(1, 3, 1, 0));
        E.out(STATE, Rivers.SOME, x -> x.gate(1, 0, 1, 0));
        E.in(4, Rivers.SOME, x -> x.gate(0, 9, 1, 0));
        Ditchright x = Rivers.GATE.made();
        x.gate(0, 6, 1, 0);
        E.dueThrow(STATE, () -> x.gate(0, 6, 1, 0));
        x.undo();
        E.due(1, x.gate(0, 6, 2, 0));
        E.due(2, x.ofGate(1, 2));
    }

    private static void gateFull() {
        E.fills(Rivers.GATE, 1, 8, (x, n) -> x.gate(0, n == 9 ? 4 : n > 4 ? n + 1 : n - 1, 40, 0));
        E.fills(Rivers.SOME, 4, 8, (x, n) -> x.gate(2, n - 4, 1, 10));
        E.out(STATE, Rivers.FULL, x -> x.gate(5, 0, 1, 0));
        E.out(STATE, Rivers.FULL, x -> x.gate(0, 9, 1, 0));
    }

    private static void gateFirstNamed() {
        E.out(INDEX, Rivers.FULL, x -> x.gate(6, 10, 0, 11));
        E.out(INDEX, Rivers.SOME, x -> x.gate(3, 3, 1, 1));
        E.out(INDEX, Rivers.SOME, x -> x.gate(-1, 10, 1, 1));
        E.out(ARGUMENT, Rivers.FULL, x -> x.gate(0, 9, 41, 1));
        E.out(ARGUMENT, Rivers.FULL, x -> x.gate(0, 10, 1, 1));
        E.out(ARGUMENT, Rivers.GATE, x -> x.gate(0, 5, 1, 11));
    }

    private static void wellNumbers() {
        E.promise(6);
        E.range(INDEX, Rivers.SOME, 0, 2, (x, n) -> x.well(n, 1));
        E.range(ARGUMENT, Rivers.SOME, 1, 5, (x, n) -> x.well(0, n));
        E.out(INDEX, Rivers.SOME, x -> x.well(3, 0));
        E.out(INDEX, Rivers.SOME, x -> x.well(-1, 6));
        E.step(Rivers.SOME, x -> x.well(2, 5));
        for (int lag = 1; lag <= 5; lag++) {
            Ditchright x = Rivers.SOME.made();
            E.due(2, x.well(2, lag));
            E.due(2, x.ofWell(2, 0));
            E.due(lag, x.ofWell(2, 1));
            E.due(0, x.ofWell(2, 2));
            E.due(0, x.ofWell(2, 3));
        }
    }

    private static void wellFull() {
        E.fills(Rivers.GATE, 0, 3, (x, n) -> x.well(0, 5));
        E.out(STATE, Rivers.FULL, x -> x.well(5, 1));
        E.out(INDEX, Rivers.FULL, x -> x.well(6, 1));
        E.out(INDEX, Rivers.FULL, x -> x.well(-1, 9));
        E.out(ARGUMENT, Rivers.FULL, x -> x.well(0, 6));
        E.out(ARGUMENT, Rivers.FULL, x -> x.well(0, 0));
        Ditchright x = Rivers.GATE.made();
        x.well(0, 1);
        x.undo();
        E.dueThrow(INDEX, () -> x.ofWell(0, 0));
        E.dueThrow(INDEX, () -> x.pump(0, 1));
    }

    private static void pumpNumbers() {
        E.promise(7);
        E.range(INDEX, Rivers.SOME, 0, 1, (x, n) -> x.pump(n, 1));
        E.range(INDEX, Rivers.FULL, 0, 2, (x, n) -> x.pump(n, 1));
        E.range(ARGUMENT, Rivers.SOME, 0, 9, (x, n) -> x.pump(0, n));
        E.out(INDEX, Rivers.SOME, x -> x.pump(2, 10));
        E.out(INDEX, Rivers.SOME, x -> x.pump(-1, -1));
        E.step(Rivers.SOME, x -> x.pump(0, 9));
        Ditchright x = Rivers.SOME.made();
        E.due(3, x.pump(0, 9));
        E.due(9, x.pump(0, 0));
        E.due(0, x.pump(0, 0));
        E.due(0, x.ofWell(0, 2));
    }
}
