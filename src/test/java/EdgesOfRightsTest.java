/** Edges of the promises 8 to 15: rights. */
public final class EdgesOfRightsTest {
    private static final Edges E = new Edges();
    private static final Class<?> INDEX = Checks.INDEX;
    private static final Class<?> ARGUMENT = Checks.ARGUMENT;
    private static final Class<?> STATE = Checks.STATE;

    public static void main(String[] args) {
        rightNumbers();
        rightUpToBound();
        rightFull();
        fishNumbers();
        fishFull();
        pondNumbers();
        pondKeepsItsEnds();
        pondFull();
        pondFullOfRights();
        wishNumbers();
        wishUpToSum();
        bornNumbers();
        splitNumbers();
        splitOfTheSmallest();
        splitKinds();
        splitFull();
        raiseNumbers();
        raiseKinds();
        raiseFull();
        moveNumbers();
        moveUpToTheSmallerOne();
        moveKinds();
        moveApart();
        moveFull();
        moveRefused();
        moveExceptionsAhead();
        E.end();
    }

    private static void rightNumbers() {
        E.promise(8);
        E.range(INDEX, Rivers.SOME, 0, 3, (x, n) -> x.right(n, 1, 1));
        E.range(INDEX, Rivers.GATE, 0, 0, (x, n) -> x.right(n, 1, 1));
        E.range(ARGUMENT, Rivers.SOME, 1, 15, (x, n) -> x.right(0, 1, n));
        E.step(Rivers.SOME, x -> x.right(0, 20, 15));
        for (int seasons = 1; seasons <= 15; seasons++) {
            Ditchright x = Rivers.GATE.made();
            E.due(0, x.right(0, 12, seasons));
            E.due(seasons, x.ofRight(0, 4));
            E.due(12, x.ofRight(0, 5));
            E.due(seasons % 2 == 1 ? 12 : 0, x.ofRight(0, 6));
        }
        E.out(INDEX, Rivers.SOME, x -> x.right(4, 0, 0));
        E.out(INDEX, Rivers.SOME, x -> x.right(-1, 1, 16));
    }

    /** SUM goes up to the BOUND of its own GATE. */
    private static void rightUpToBound() {
        int[] bounds = {20, 12, 40, 5};
        for (int k = 0; k < 4; k++) {
            int gate = k;
            E.range(ARGUMENT, Rivers.SOME, 1, bounds[k], (x, n) -> x.right(gate, n, 15));
        }
        Edges.Build narrow = () -> {
            Ditchright x = new Ditchright();
            x.reach(-1, 1, 0, 0);
            x.gate(0, 0, 1, 0);
            return x;
        };
        E.range(ARGUMENT, narrow, 1, 1, (x, n) -> x.right(0, n, 8));
        // One RIGHT alone is looked at: all together may have more than BOUND.
        Ditchright x = narrow.made();
        for (int k = 0; k < 10; k++) {
            E.due(k, x.right(0, 1, 1));
        }
        E.due(1, x.ofGate(0, 4));
    }

    private static void rightFull() {
        E.fills(Rivers.GATE, 0, 10, (x, n) -> x.right(0, 12, 15));
        E.fills(Rivers.SOME, 5, 10, (x, n) -> x.right(0, 1, 15));
        E.out(STATE, Rivers.FULL, x -> x.right(0, 5, 15));
        E.out(INDEX, Rivers.FULL, x -> x.right(8, 0, 0));
        E.out(ARGUMENT, Rivers.FULL, x -> x.right(0, 6, 15));
        E.out(ARGUMENT, Rivers.FULL, x -> x.right(0, 5, 16));
        E.out(ARGUMENT, Rivers.FULL, x -> x.right(0, 5, 0));
    }

    private static void fishNumbers() {
        E.promise(9);
        E.range(INDEX, Rivers.SOME, 0, 2, (x, n) -> x.fish(n, 1));
        E.range(ARGUMENT, Rivers.SOME, 1, 40, (x, n) -> x.fish(2, n));
        E.out(INDEX, Rivers.SOME, x -> x.fish(3, 0));
        E.out(INDEX, Rivers.SOME, x -> x.fish(-1, 41));
        E.step(Rivers.SOME, x -> x.fish(2, 40));
        // A REACH without a GATE has FISH, too, and just the REST of what is there.
        Ditchright x = new Ditchright();
        x.reach(-1, 40, 0, 0);
        E.due(0, x.fish(0, 40));
        E.due(40, x.share(0, true));
        x.spring(0, 39);
        E.due(39, x.share(0, true));
        E.due("0<D", x.why(0));
    }

    private static void fishFull() {
        E.fills(Rivers.GATE, 0, 10, (x, n) -> x.fish(0, 1));
        E.out(STATE, Rivers.FULL, x -> x.fish(5, 40));
        E.out(STATE, Rivers.CROWD, x -> x.fish(0, 1));
        E.out(INDEX, Rivers.FULL, x -> x.fish(6, 0));
        E.out(ARGUMENT, Rivers.FULL, x -> x.fish(0, 0));
        E.out(ARGUMENT, Rivers.FULL, x -> x.fish(0, 41));
    }

    private static void pondNumbers() {
        E.promise(10);
        E.range(INDEX, Rivers.SOME, 0, 3, (x, n) -> x.pond(n, 1));
        E.range(ARGUMENT, Rivers.SOME, 1, 60, (x, n) -> x.pond(0, n));
        E.out(INDEX, Rivers.SOME, x -> x.pond(4, 0));
        E.out(INDEX, Rivers.SOME, x -> x.pond(-1, 61));
        E.step(Rivers.SOME, x -> x.pond(3, 60));
    }

    private static void pondKeepsItsEnds() {
        for (int room : new int[] {1, 60}) {
            Ditchright x = Rivers.SOME.made();
            E.due(2, x.pond(2, room));
            E.due(5, x.ofPond(2, 0));
            E.due(room, x.ofPond(2, 1));
            for (int what = 2; what <= 7; what++) {
                E.due(0, x.ofPond(2, what));
            }
            E.due(2, x.ofRight(5, 10));
            E.due(40, x.ofRight(5, 3));
            E.due(Math.min(40, room), x.ofRight(5, 6));
        }
    }

    private static void pondFull() {
        E.fills(Rivers.GATE, 0, 3, (x, n) -> x.pond(0, 60));
        E.fills(Rivers.SOME, 2, 3, (x, n) -> x.pond(3, 1));
        E.out(STATE, Rivers.FULL, x -> x.pond(0, 1));
        E.out(INDEX, Rivers.FULL, x -> x.pond(8, 0));
        E.out(ARGUMENT, Rivers.FULL, x -> x.pond(0, 0));
        E.out(ARGUMENT, Rivers.FULL, x -> x.pond(0, 61));
        // Neither the POND nor its RIGHT is there behind undo().
        Ditchright x = Rivers.GATE.made();
        x.pond(0, 9);
        x.undo();
        E.due(0, x.house(2));
        E.due(0, x.house(9));
        E.dueThrow(INDEX, () -> x.ofPond(0, 0));
        E.dueThrow(INDEX, () -> x.let(0, 0, 1));
    }

    private static void pondFullOfRights() {
        E.out(STATE, Rivers.CROWD, x -> x.pond(0, 1));
        E.out(INDEX, Rivers.CROWD, x -> x.pond(2, 1));
        E.out(ARGUMENT, Rivers.CROWD, x -> x.pond(0, 61));
        Ditchright x = Rivers.CROWD.made();
        x.undo();
        E.due(0, x.pond(1, 60));
        E.due(9, x.ofPond(0, 0));
        E.dueThrow(STATE, () -> x.pond(1, 60));
        E.dueThrow(STATE, () -> x.right(1, 1, 1));
    }

    private static void wishNumbers() {
        E.promise(11);
        E.range(INDEX, Rivers.SOME, 0, 4, (x, n) -> x.wish(n, 0));
        E.range(INDEX, Rivers.FULL, 0, 9, (x, n) -> x.wish(n, 0));
        E.out(INDEX, Rivers.SOME, x -> x.wish(5, -1));
        E.out(INDEX, Rivers.SOME, x -> x.wish(-1, 99));
        E.step(Rivers.SOME, x -> x.wish(0, 0));
        E.step(Rivers.SOME, x -> x.wish(0, 15));
    }

    /** From 0 to SUM: of a USE, a FISH, a STORE (its GATE's BOUND). */
    private static void wishUpToSum() {
        int[] sums = {15, 9, 12, 8, 20};
        for (int k = 0; k < 5; k++) {
            int right = k;
            E.range(ARGUMENT, Rivers.SOME, 0, sums[k], (x, n) -> x.wish(right, n));
        }
        E.range(ARGUMENT, Rivers.GONE, 0, 5, (x, n) -> x.wish(0, n));
        // WISH is bounded by SUM as it is now, not by WISH before.
        Ditchright x = Rivers.SOME.made();
        E.due(15, x.wish(0, 0));
        E.due(0, x.wish(0, 15));
        x.split(0, 10);
        E.dueThrow(ARGUMENT, () -> x.wish(0, 6));
        E.due(5, x.wish(0, 5));
        E.due(10, x.wish(5, 10));
        E.dueThrow(ARGUMENT, () -> x.wish(5, 11));
        x.undo();
        x.undo();
        x.undo();
        E.due(15, x.wish(0, 15));
    }

    private static void bornNumbers() {
        E.promise(12);
        E.range(INDEX, Rivers.SOME, 0, 4, (x, n) -> x.born(n, 0));
        E.range(INDEX, Rivers.FULL, 0, 9, (x, n) -> x.born(n, 0));
        for (int k = 0; k < 5; k++) {
            int right = k;
            E.range(ARGUMENT, Rivers.SOME, 0, 999, (x, n) -> x.born(right, n));
        }
        E.out(INDEX, Rivers.SOME, x -> x.born(5, 1000));
        E.out(INDEX, Rivers.SOME, x -> x.born(-1, -1));
        E.step(Rivers.SOME, x -> x.born(0, 999));
        E.step(Rivers.SOME, x -> x.born(0, 0));
        Ditchright x = Rivers.SOME.made();
        E.due(0, x.born(0, 999));
        E.due(0, x.byAge(4));
        E.due(0, x.born(4, 999));
        E.due(4, x.byAge(4));
        E.due(999, x.born(4, 998));
        E.due(0, x.byAge(4));
        E.due(998, x.born(4, 0));
        E.due(4, x.byAge(3));
    }

    private static void splitNumbers() {
        E.promise(13);
        E.range(INDEX, Rivers.GONE, 1, 1, (x, n) -> x.split(n == 0 ? -1 : n, 1));
        E.out(INDEX, Rivers.SOME, x -> x.split(5, 0));
        E.out(INDEX, Rivers.SOME, x -> x.split(-1, 99));
        E.range(ARGUMENT, Rivers.SOME, 1, 14, (x, n) -> x.split(0, n));
        E.range(ARGUMENT, Rivers.SOME, 1, 7, (x, n) -> x.split(3, n));
        E.step(Rivers.SOME, x -> x.split(0, 14));
        for (int drops : new int[] {1, 14}) {
            Ditchright x = Rivers.SOME.made();
            E.due(5, x.split(0, drops));
            E.due(15 - drops, x.ofRight(0, 3));
            E.due(15 - drops, x.ofRight(0, 5));
            E.due(drops, x.ofRight(5, 3));
            E.due(drops, x.ofRight(5, 5));
        }
    }

    /** What has a SUM of 1 can not be split; of 2 just into halves. */
    private static void splitOfTheSmallest() {
        Edges.Build one = () -> {
            Ditchright x = Rivers.GATE.made();
            x.right(0, 1, 15);
            return x;
        };
        for (int drops = 0; drops <= 2; drops++) {
            int asked = drops;
            E.out(ARGUMENT, one, x -> x.split(0, asked));
        }
        Edges.Build two = () -> {
            Ditchright x = Rivers.GATE.made();
            x.right(0, 2, 15);
            return x;
        };
        E.range(ARGUMENT, two, 1, 1, (x, n) -> x.split(0, n));
    }

    private static void splitKinds() {
        for (int right : new int[] {1, 2, 4}) {
            E.out(ARGUMENT, Rivers.SOME, x -> x.split(right, 1));
        }
        E.out(ARGUMENT, Rivers.GONE, x -> x.split(0, 1));
        E.in(2, Rivers.GONE, x -> x.split(1, 1));
        // One DAY ahead of that it is not GONE yet.
        Ditchright x = Rivers.GONE.made();
        x.undo();
        x.undo();
        x.run(19);
        E.due(39, x.ofRight(0, 8));
        E.due(2, x.split(0, 1));
    }

    private static void splitFull() {
        Edges.Build big = () -> {
            Ditchright x = Rivers.GATE.made();
            x.right(0, 12, 15);
            return x;
        };
        E.fills(big, 1, 10, (x, n) -> x.split(0, 1));
        E.out(STATE, Rivers.FULL, x -> x.split(0, 11));
        E.out(STATE, Rivers.CROWD, x -> x.split(9, 1));
        E.out(ARGUMENT, Rivers.CROWD, x -> x.split(9, 2));
        E.out(ARGUMENT, Rivers.FULL, x -> x.split(3, 1));
        E.out(INDEX, Rivers.FULL, x -> x.split(10, 1));
    }

    private static void raiseNumbers() {
        E.promise(14);
        E.out(INDEX, Rivers.SOME, x -> x.raise(5, 0));
        E.out(INDEX, Rivers.SOME, x -> x.raise(-1, 99));
        E.out(INDEX, Rivers.SOME, x -> x.raise(Integer.MAX_VALUE, 1));
        // Up to BOUND, whatever SUM is.
        E.range(ARGUMENT, Rivers.SOME, 1, 20, (x, n) -> x.raise(0, n));
        E.range(ARGUMENT, Rivers.SOME, 1, 40, (x, n) -> x.raise(3, n));
        E.step(Rivers.SOME, x -> x.raise(0, 20));
        for (int drops : new int[] {1, 40}) {
            Ditchright x = Rivers.SOME.made();
            E.due(5, x.raise(3, drops));
            E.due(8, x.ofRight(3, 3));
            int[] want = {0, 2, 3, drops, 7, drops, drops, 0, 0, 0, -1};
            for (int what = 0; what <= 10; what++) {
                E.due(want[what], x.ofRight(5, what));
            }
        }
    }

    private static void raiseKinds() {
        for (int right : new int[] {1, 2, 4}) {
            E.out(ARGUMENT, Rivers.SOME, x -> x.raise(right, 1));
        }
        E.out(ARGUMENT, Rivers.GONE, x -> x.raise(0, 1));
        E.in(2, Rivers.GONE, x -> x.raise(1, 12));
    }

    private static void raiseFull() {
        Edges.Build big = () -> {
            Ditchright x = Rivers.GATE.made();
            x.right(0, 12, 15);
            return x;
        };
        E.fills(big, 1, 10, (x, n) -> x.raise(0, 12));
        E.out(STATE, Rivers.FULL, x -> x.raise(0, 1));
        E.out(ARGUMENT, Rivers.FULL, x -> x.raise(0, 41));
        E.out(ARGUMENT, Rivers.FULL, x -> x.raise(0, 0));
        E.out(ARGUMENT, Rivers.FULL, x -> x.raise(8, 1));
        E.out(INDEX, Rivers.FULL, x -> x.raise(10, 1));
    }

    private static void moveNumbers() {
        E.promise(15);
        for (int right : new int[] {-1, 5, Integer.MIN_VALUE, Integer.MAX_VALUE}) {
            E.out(INDEX, Rivers.FORK, x -> x.move(right, 1, 0));
        }
        for (int gate : new int[] {-1, 4, Integer.MIN_VALUE, Integer.MAX_VALUE}) {
            E.out(INDEX, Rivers.FORK, x -> x.move(1, gate, 0));
            // Also of what is no USE.
            E.out(INDEX, Rivers.FORK, x -> x.move(4, gate, 1));
        }
        E.step(Rivers.FORK, x -> x.move(0, 1, 6));
        E.step(Rivers.FORK, x -> x.move(0, 1, 5));
    }

    private static void moveUpToTheSmallerOne() {
        // SUM is 6, BOUND of the GATES 0 to 2 is 20, of GATE 3 it is 4.
        E.range(ARGUMENT, Rivers.FORK, 1, 6, (x, n) -> x.move(0, 1, n));
        E.range(ARGUMENT, Rivers.FORK, 1, 4, (x, n) -> x.move(0, 3, n));
        E.in(5, Rivers.FORK, x -> x.move(0, 1, 1));
        E.in(5, Rivers.FORK, x -> x.move(0, 1, 5));
        E.in(0, Rivers.FORK, x -> x.move(0, 1, 6));
        // As many as BOUND lets, but not all of SUM: a new one has them.
        E.in(5, Rivers.FORK, x -> x.move(0, 3, 4));
        E.in(3, Rivers.FORK, x -> x.move(3, 0, 4));
        // WISH and WANT do not count.
        Ditchright x = Rivers.FORK.made();
        x.wish(0, 0);
        E.due(0, x.move(0, 1, 6));
        E.due(0, x.ofRight(0, 5));
        x.undo();
        E.due(5, x.move(0, 1, 2));
        E.due(4, x.ofRight(0, 5));
        E.due(2, x.ofRight(5, 5));
    }

    private static void moveKinds() {
        E.out(ARGUMENT, Rivers.FORK, x -> x.move(4, 1, 1));
        E.out(ARGUMENT, Rivers.SOME, x -> x.move(2, 0, 1));
        E.out(ARGUMENT, Rivers.FORK, x -> x.move(0, 0, 1));
        E.out(ARGUMENT, Rivers.FORK, x -> x.move(2, 2, 6));
        E.out(ARGUMENT, Rivers.GONE, x -> x.move(0, 1, 1));
        E.in(2, Rivers.GONE, x -> x.move(1, 1, 1));
        E.in(1, Rivers.GONE, x -> x.move(1, 1, 5));
    }

    /** 1 and 2 are APART, 3 and 2, too; one REACH, or one BELOW the other one, once or more often, is not. */
    private static void moveApart() {
        int[][] apart = {{1, 2}, {2, 1}, {3, 2}, {2, 3}};
        for (int[] pair : apart) {
            E.out(STATE, Rivers.FORK, x -> x.move(pair[0], pair[1], 1));
            E.out(STATE, Rivers.FORK, x -> x.move(pair[0], pair[1], 4));
        }
        int[][] near = {{0, 1}, {1, 0}, {0, 3}, {3, 0}, {1, 3}, {3, 1}, {0, 2}, {2, 0}};
        for (int[] pair : near) {
            E.in(5, Rivers.FORK, x -> x.move(pair[0], pair[1], 1));
        }
        Ditchright x = Rivers.FORK.made();
        x.gate(1, 6, 20, 0);
        E.due(1, x.move(1, 4, 6));
        x.lead(2, 1);
        E.due(2, x.move(2, 1, 6));
        x.undo();
        x.undo();
        E.dueThrow(STATE, () -> x.move(2, 1, 6));
        // Those that LEAVE at two places are APART.
        x.lead(1, -1);
        E.dueThrow(STATE, () -> x.move(0, 1, 1));
        E.due(5, x.move(1, 3, 2));
    }

    private static void moveFull() {
        E.out(STATE, Rivers.CROWD, x -> x.move(0, 1, 1));
        E.in(0, Rivers.CROWD, x -> x.move(0, 1, 2));
        E.in(9, Rivers.CROWD, x -> x.move(9, 0, 2));
        E.out(ARGUMENT, Rivers.CROWD, x -> x.move(0, 1, 3));
        E.out(INDEX, Rivers.CROWD, x -> x.move(10, 1, 1));
        Ditchright x = Rivers.CROWD.made();
        x.undo();
        E.due(9, x.move(0, 1, 1));
        E.dueThrow(STATE, () -> x.move(1, 1, 1));
        E.due(0, x.move(0, 1, 1));
    }

    /** Up at GATE 1 the 6 leave the REACH 1, whose FISH is younger and has just its 3. */
    private static Ditchright besideFish() {
        Ditchright x = new Ditchright();
        x.reach(-1, 0, 0, 0);
        x.reach(0, 9, 0, 0);
        x.reach(0, 5, 0, 0);
        x.gate(0, 5, 20, 0);
        x.gate(1, 5, 20, 0);
        x.gate(2, 5, 20, 0);
        x.right(0, 6, 15);
        x.right(1, 6, 15);
        x.fish(1, 3);
        x.born(2, 1);
        return x;
    }

    private static void moveRefused() {
        Edges.Build build = EdgesOfRightsTest::besideFish;
        E.due(3, besideFish().share(2, true));
        E.refused(build, x -> x.move(0, 1, 6));
        E.refused(build, x -> x.move(0, 1, 1));
        E.in(0, build, x -> x.move(0, 2, 6));
        Ditchright x = besideFish();
        x.spring(1, 14);
        E.due(-9, x.move(0, 1, 6));
        // One drop more, and none has less.
        x.spring(1, 15);
        E.due(0, x.move(0, 1, 6));
        x.undo();
        x.undo();
        E.due(-9, x.move(0, 1, 6));
        E.due(2, x.house(7));
        // No number is used up by it.
        E.due(3, x.right(0, 1, 1));
    }

    /** What would be REFUSED, but for an exception, throws, and is not counted. */
    private static void moveExceptionsAhead() {
        Edges.Build build = EdgesOfRightsTest::besideFish;
        E.out(ARGUMENT, build, x -> x.move(0, 1, 7));
        E.out(ARGUMENT, build, x -> x.move(0, 1, 0));
        E.out(INDEX, build, x -> x.move(0, 3, 6));
        Edges.Build apart = () -> {
            Ditchright x = besideFish();
            x.lead(0, -1);
            x.lead(1, -1);
            return x;
        };
        // It would still take the FISH's water.
        E.due(true, apart.made().harms(0, 1, 6) > 0);
        E.out(STATE, apart, x -> x.move(0, 1, 6));
        Edges.Build crowded = () -> {
            Ditchright x = besideFish();
            for (int k = 3; k < 10; k++) {
                x.right(2, 1, 15);
            }
            return x;
        };
        E.due(1, crowded.made().harms(0, 1, 5));
        E.out(STATE, crowded, x -> x.move(0, 1, 5));
        E.refused(crowded, x -> x.move(0, 1, 6));
    }
}
