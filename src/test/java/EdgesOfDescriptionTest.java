/** Edges that the Description names in its sections 1 to 6, beside those of the calls' own arguments. */
public final class EdgesOfDescriptionTest {
    private static final Edges E = new Edges();
    private static final Class<?> ARGUMENT = Checks.ARGUMENT;
    private static final Class<?> STATE = Checks.STATE;

    public static void main(String[] args) {
        lossIsRoundedDown();
        returnIsRoundedDown();
        returnComesBehindTheLastGate();
        milesSmallOnesFirst();
        pumpedAsTheDayEnded();
        nothingPumpedAheadOfDayZero();
        springIsNeverBelowZero();
        seasonsTurn();
        oldestBySameDay();
        idleOfForty();
        goneForGood();
        debtAndWant();
        debtFallsInItsSeasonAlone();
        storeWants();
        boundJustReached();
        restJustReached();
        placeUpToBound();
        fiveDaysAreKept();
        filledIsEmptiedAtForty();
        tenthsOfAYear();
        pondSeeps();
        letComesTomorrowAlone();
        letIntoThePondsReach();
        hoursByParts();
        moveOfAll();
        harmedHasLess();
        harmedInEachYear();
        apartBelowOnceOrMore();
        whatThrowsIsNoStep();
        upToTheLastCall();
        E.end();
    }

    private static void lossIsRoundedDown() {
        E.promise(41);
        for (int loss = 0; loss <= 5; loss++) {
            Ditchright x = new Ditchright();
            x.reach(-1, 0, loss, 0);
            for (int drops : new int[] {0, 1, 2, 3, 4, 9, 10, 11, 19, 20, 59, 60}) {
                x.spring(0, drops);
                E.due(drops * loss / 10, x.ofReach(0, 6));
                E.due(drops - drops * loss / 10, x.ofReach(0, 8));
                E.due(drops, x.balance(2) + x.balance(4));
            }
        }
        // What has come in together is lost together: 9 and 1 are 10.
        Ditchright x = new Ditchright();
        x.reach(-1, 9, 1, 0);
        E.due(0, x.ofReach(0, 6));
        x.reach(0, 1, 5, 0);
        E.due(0, x.ofReach(1, 6));
        E.due(1, x.ofReach(0, 6));
    }

    private static void returnIsRoundedDown() {
        E.promise(42);
        for (int back = 0; back <= 10; back++) {
            Ditchright x = new Ditchright();
            x.reach(-1, 60, 0, 0);
            x.gate(0, 0, 40, back);
            x.right(0, 40, 15);
            for (int drops : new int[] {0, 1, 2, 3, 9, 10, 11, 19, 20, 39, 40}) {
                x.wish(0, drops);
                E.due(drops * back / 10, x.ofGate(0, 5));
                E.due(60 - drops + drops * back / 10, x.ofReach(0, 8));
            }
        }
        // Tenths of what all USES take together: 5 and 5 are 10; a STORE's 9 do not count.
        Ditchright x = new Ditchright();
        x.reach(-1, 60, 0, 0);
        x.gate(0, 0, 40, 1);
        x.right(0, 5, 15);
        E.due(0, x.ofGate(0, 5));
        x.pond(0, 9);
        E.due(14, x.ofGate(0, 4));
        E.due(0, x.ofGate(0, 5));
        x.right(0, 5, 15);
        E.due(19, x.ofGate(0, 4));
        E.due(1, x.ofGate(0, 5));
        E.due(9, x.balance(1));
        E.due(9, x.balance(3));
    }

    private static void returnComesBehindTheLastGate() {
        E.promise(32);
        Ditchright x = new Ditchright();
        x.reach(-1, 0, 0, 0);
        x.reach(0, 10, 0, 0);
        x.gate(1, 0, 40, 10);
        x.gate(1, 9, 40, 0);
        x.gate(0, 0, 40, 0);
        x.right(0, 10, 15);
        x.right(1, 1, 15);
        x.fish(1, 1);
        x.right(2, 10, 15);
        // The mill gives all of it back, but neither to the next GATE nor to the FISH of its REACH.
        E.due(10, x.ofGate(0, 5));
        E.due(0, x.share(1, true));
        E.due(0, x.share(1, false));
        E.due(0, x.share(2, true));
        E.due(0, x.ofReach(1, 7));
        E.due(10, x.ofReach(1, 8));
        E.due(10, x.share(3, true));
        E.due(10, x.share(3, false));
        x.wish(0, 9);
        E.due(1, x.share(1, true));
        E.due(1, x.share(1, false));
        x.wish(1, 0);
        E.due(1, x.share(2, true));
    }

    private static void milesSmallOnesFirst() {
        Ditchright x = new Ditchright();
        x.reach(-1, 5, 0, 0);
        int[] miles = {9, 0, 5, 1, 8, 4};
        for (int k = 0; k < 6; k++) {
            x.gate(0, miles[k], 40, 0);
            x.right(k, 1, 15);
        }
        // Of 6 by PLACE the one at MILE 9 alone has nothing.
        for (int k = 0; k < 6; k++) {
            E.due(miles[k] == 9 ? 0 : 1, x.share(k, false));
            E.due(k == 5 ? 0 : 1, x.share(k, true));
        }
        x.spring(0, 1);
        for (int k = 0; k < 6; k++) {
            E.due(miles[k] == 0 ? 1 : 0, x.share(k, false));
        }
    }

    private static void pumpedAsTheDayEnded() {
        E.promise(46);
        for (int lag = 1; lag <= 5; lag++) {
            Ditchright x = new Ditchright();
            x.reach(-1, 60, 0, 0);
            x.well(0, lag);
            int[] pumps = {9, 0, 4, 1, 8, 2, 7, 3, 6, 5};
            for (int day = 0; day < 10; day++) {
                // What it was in between on that DAY does not count.
                x.pump(0, 9 - pumps[day]);
                x.pump(0, pumps[day]);
                int ago = day < lag ? 0 : pumps[day - lag];
                E.due(ago, x.ofWell(0, 3));
                E.due(60 - ago, x.ofReach(0, 4));
                x.run(1);
            }
        }
    }

    private static void nothingPumpedAheadOfDayZero() {
        Ditchright x = new Ditchright();
        x.reach(-1, 9, 0, 0);
        x.well(0, 5);
        x.pump(0, 9);
        for (int day = 0; day < 5; day++) {
            E.due(0, x.ofWell(0, 3));
            E.due(9, x.ofReach(0, 4));
            x.run(1);
        }
        E.due(9, x.ofWell(0, 3));
        E.due(0, x.ofReach(0, 4));
        x.undo();
        E.due(9, x.ofReach(0, 4));
        // A WELL that comes later pumped nothing ahead of that.
        Ditchright y = new Ditchright();
        y.reach(-1, 9, 0, 0);
        y.run(4);
        y.well(0, 2);
        y.pump(0, 9);
        y.run(1);
        E.due(9, y.ofReach(0, 4));
        y.run(1);
        E.due(0, y.ofReach(0, 4));
    }

    private static void springIsNeverBelowZero() {
        E.promise(41);
        Ditchright x = new Ditchright();
        x.reach(-1, 19, 0, 0);
        x.reach(-1, 5, 0, 0);
        x.well(0, 1);
        x.well(0, 1);
        x.pump(0, 9);
        x.pump(1, 9);
        x.run(1);
        E.due(1, x.ofReach(0, 4));
        x.spring(0, 18);
        E.due(0, x.ofReach(0, 4));
        x.spring(0, 17);
        E.due(0, x.ofReach(0, 4));
        x.spring(0, 0);
        E.due(0, x.ofReach(0, 4));
        E.due(0, x.ofReach(0, 8));
        E.due(5, x.balance(0));
        // What was LET comes beside that, and is not lessened.
        Ditchright y = new Ditchright();
        y.reach(-1, 12, 0, 0);
        y.gate(0, 0, 12, 0);
        y.pond(0, 60);
        y.well(0, 1);
        y.run(1);
        y.pump(0, 9);
        y.spring(0, 3);
        y.let(0, 0, 6);
        y.run(1);
        E.due(6, y.ofReach(0, 4));
        y.run(1);
        E.due(0, y.ofReach(0, 4));
    }

    private static void seasonsTurn() {
        E.promise(43);
        for (int season = 0; season <= 3; season++) {
            Ditchright x = Rivers.GATE.made();
            x.right(0, 3, 1 << season);
            x.right(0, 2, 15 - (1 << season));
            x.fish(0, 1);
            x.pond(0, 60);
            for (int day = 0; day <= 81; day++) {
                boolean isIn = day / 10 % 4 == season;
                E.due(isIn ? 3 : 0, x.ofRight(0, 6));
                E.due(isIn ? 0 : 2, x.ofRight(1, 6));
                E.due(1, x.ofRight(2, 6));
                x.run(1);
            }
        }
    }

    private static void oldestBySameDay() {
        E.promise(33);
        Ditchright x = Rivers.CROWD.made();
        for (int k = 0; k < 10; k++) {
            E.due(k, x.byAge(k));
        }
        x.born(0, 1);
        for (int k = 0; k < 10; k++) {
            E.due((k + 1) % 10, x.byAge(k));
        }
        x.born(0, 0);
        for (int k = 0; k < 10; k++) {
            x.born(k, 999 - k);
        }
        for (int k = 0; k < 10; k++) {
            E.due(9 - k, x.byAge(k));
        }
        for (int k = 0; k < 10; k++) {
            x.born(k, 999);
        }
        for (int k = 0; k < 10; k++) {
            E.due(k, x.byAge(k));
        }
    }

    private static Ditchright idle(int days) {
        Ditchright x = Rivers.GATE.made();
        x.right(0, 5, 15);
        x.fish(0, 2);
        x.pond(0, 9);
        for (int k = 0; k < 3; k++) {
            x.wish(k, 0);
        }
        x.run(20);
        x.run(days - 20);
        for (int k = 0; k < 3; k++) {
            x.wish(k, 2);
        }
        return x;
    }

    private static void idleOfForty() {
        E.promise(43);
        Ditchright x = idle(39);
        for (int k = 0; k < 3; k++) {
            E.due(39, x.ofRight(k, 8));
            E.due(0, x.ofRight(k, 9));
            E.due(2, x.ofRight(k, 6));
        }
        x.run(1);
        for (int k = 0; k < 3; k++) {
            E.due(0, x.ofRight(k, 8));
        }
        // A USE alone is GONE by it.
        Ditchright y = idle(40);
        for (int k = 0; k < 3; k++) {
            E.due(40, y.ofRight(k, 8));
            E.due(k == 0 ? 1 : 0, y.ofRight(k, 9));
            E.due(k == 0 ? 0 : 2, y.ofRight(k, 6));
        }
        y.run(1);
        E.due(41, y.ofRight(0, 8));
        E.due(0, y.ofRight(1, 8));
        E.due(0, y.ofRight(2, 8));
        // A single drop on the fortieth DAY: it begins anew.
        Ditchright z = idle(39);
        z.wish(0, 1);
        z.run(1);
        z.wish(0, 0);
        z.run(19);
        z.run(20);
        E.due(39, z.ofRight(0, 8));
        E.due(0, z.ofRight(0, 9));
        z.run(1);
        E.due(1, z.ofRight(0, 9));
    }

    private static void goneForGood() {
        Ditchright x = Rivers.GONE.made();
        E.due(1, x.ofRight(0, 9));
        x.spring(0, 60);
        x.born(0, 0);
        x.measure(0, 1, 40);
        E.due(1, x.ofRight(0, 9));
        E.due(40, x.ofRight(0, 8));
        E.due(0, x.ofRight(0, 6));
        x.run(1);
        // Its DEBT no longer falls, its IDLE grows on, and it is still one of its GATE.
        E.due(40, x.ofRight(0, 7));
        E.due(41, x.ofRight(0, 8));
        E.due(2, x.ofGate(0, 6));
        x.measure(0, 1, 0);
        x.measure(0, 2, 0);
        E.due(0, x.ofRight(0, 7));
        E.due(0, x.ofRight(0, 6));
        x.run(20);
        E.due(1, x.ofRight(0, 9));
        // Only undo() of the fortieth DAY brings it back.
        Ditchright y = Rivers.GONE.made();
        y.undo();
        E.due(1, y.ofRight(0, 9));
        y.undo();
        E.due(0, y.ofRight(0, 9));
        E.due(20, y.ofRight(0, 8));
    }

    private static void debtAndWant() {
        Ditchright x = Rivers.GATE.made();
        x.right(0, 10, 15);
        x.run(1);
        int[][] debtAndWant = {{-10, 10}, {-1, 10}, {0, 10}, {1, 9}, {9, 1}, {10, 0}, {11, 0}, {30, 0}};
        for (int[] pair : debtAndWant) {
            E.due(pair[0], x.measure(0, 1, 10 + pair[0]));
            E.due(pair[1], x.ofRight(0, 6));
            E.due(pair[1], x.share(0, true));
            E.due(pair[1], x.share(0, false));
            // By as much as it lessened WANT, and no more.
            x.run(1);
            E.due(pair[0] > 0 ? Math.max(0, pair[0] - 10) : pair[0], x.ofRight(0, 7));
            x.undo();
        }
        // With a WISH of 0 there is nothing to lessen.
        x.measure(0, 1, 17);
        x.wish(0, 0);
        x.run(1);
        E.due(7, x.ofRight(0, 7));
        x.wish(0, 3);
        x.run(1);
        E.due(4, x.ofRight(0, 7));
        // It falls though it is dry.
        x.spring(0, 0);
        x.run(1);
        E.due(1, x.ofRight(0, 7));
    }

    private static void debtFallsInItsSeasonAlone() {
        Ditchright x = Rivers.GATE.made();
        x.right(0, 2, 1);
        x.run(9);
        E.due(20, x.measure(0, 1, 22));
        x.run(1);
        E.due(18, x.ofRight(0, 7));
        // DAY 10 to 39: not its SEASON.
        x.run(20);
        x.run(10);
        E.due(18, x.ofRight(0, 7));
        E.due(31, x.ofRight(0, 8));
        x.run(1);
        E.due(16, x.ofRight(0, 7));
        x.run(8);
        E.due(0, x.ofRight(0, 7));
        // The last DAY on which it is not GONE.
        E.due(1, x.ofRight(0, 9));
        E.due(40, x.ofRight(0, 8));
    }

    private static void storeWants() {
        Ditchright x = new Ditchright();
        x.reach(-1, 60, 0, 0);
        x.gate(0, 0, 20, 0);
        x.pond(0, 22);
        // The least of WISH 20, room 22, and 44 less what FILLED it.
        E.due(20, x.ofRight(0, 6));
        x.run(1);
        E.due(18, x.ofPond(0, 2));
        E.due(4, x.ofRight(0, 6));
        x.wish(0, 3);
        E.due(3, x.ofRight(0, 6));
        x.undo();
        x.let(0, 0, 18);
        E.due(20, x.ofRight(0, 6));
        x.run(1);
        E.due(40, x.ofPond(0, 3));
        x.let(0, 0, 18);
        // Room for 22, but only 4 of twice its ROOM are left.
        E.due(22, x.ofPond(0, 1) - x.ofPond(0, 2));
        E.due(4, x.ofRight(0, 6));
        E.due(4, x.run(1));
        E.due(44, x.ofPond(0, 3));
        E.due(0, x.ofRight(0, 6));
        E.due(0, x.run(1));
        E.due(44, x.ofPond(0, 3));
        E.due("-", x.why(0));
        // No room at all.
        Ditchright y = new Ditchright();
        y.reach(-1, 60, 0, 0);
        y.gate(0, 0, 20, 0);
        y.pond(0, 9);
        y.run(1);
        E.due(9, y.ofPond(0, 2));
        E.due(0, y.ofRight(0, 6));
        y.run(1);
        E.due(9, y.ofPond(0, 3));
        E.due(1, y.ofRight(0, 8));
    }

    private static void boundJustReached() {
        E.promise(32);
        Ditchright x = Rivers.GATE.made();
        x.right(0, 7, 15);
        x.right(0, 5, 15);
        E.due(12, x.ofGate(0, 4));
        E.due("-", x.why(1));
        x.right(0, 1, 15);
        E.due(0, x.share(2, true));
        E.due(0, x.share(2, false));
        E.due("2<B0", x.why(2));
        x.wish(0, 6);
        E.due(1, x.share(2, true));
        E.due(1, x.share(2, false));
        E.due("-", x.why(2));
        // Just as much as is there.
        x.spring(0, 12);
        E.due("-", x.why(2));
        E.due(0, x.ofReach(0, 7));
        x.spring(0, 11);
        E.due(0, x.share(2, true));
        E.due(0, x.share(2, false));
        E.due("2<D", x.why(2));
    }

    private static void restJustReached() {
        Ditchright x = Rivers.GATE.made();
        x.fish(0, 20);
        x.right(0, 10, 15);
        // 30 are there: 20 stay, 10 go.
        E.due(20, x.share(0, true));
        E.due(10, x.share(1, true));
        E.due(20, x.ofReach(0, 7));
        x.spring(0, 29);
        E.due(20, x.share(0, true));
        E.due(9, x.share(1, true));
        E.due("1<0", x.why(1));
        E.due("-", x.why(0));
        x.spring(0, 20);
        E.due(20, x.share(0, true));
        E.due(0, x.share(1, true));
        x.spring(0, 19);
        E.due(19, x.share(0, true));
        E.due("0<D", x.why(0));
        E.due("1<0<D", x.why(1));
        E.due(0, x.share(0, false));
        E.due(10, x.share(1, false));
    }

    private static void placeUpToBound() {
        Ditchright x = new Ditchright();
        x.reach(-1, 60, 0, 0);
        x.gate(0, 0, 10, 0);
        x.right(0, 10, 15);
        x.right(0, 10, 15);
        x.born(0, 2);
        E.due(0, x.share(0, false));
        E.due(10, x.share(1, false));
        x.wish(1, 9);
        E.due(1, x.share(0, false));
        x.wish(1, 10);
        x.spring(0, 9);
        E.due(9, x.share(1, false));
        E.due(0, x.share(0, false));
        E.due("", x.calls(0));
        // The older one calls no younger one, as that has nothing.
        E.due("", x.calls(1));
    }

    private static void fiveDaysAreKept() {
        E.promise(44);
        Ditchright x = Rivers.GATE.made();
        x.right(0, 12, 15);
        for (int day = 1; day <= 6; day++) {
            x.wish(0, day);
            x.run(1);
        }
        for (int ago = 1; ago <= 5; ago++) {
            E.due(7 - ago, x.had(0, ago));
        }
        E.dueThrow(ARGUMENT, () -> x.had(0, 6));
        E.dueThrow(ARGUMENT, () -> x.measure(0, 6, 1));
        x.undo();
        for (int ago = 1; ago <= 5; ago++) {
            E.due(6 - ago, x.had(0, ago));
        }
    }

    private static void filledIsEmptiedAtForty() {
        E.promise(45);
        Ditchright x = new Ditchright();
        x.reach(-1, 60, 0, 0);
        x.gate(0, 0, 1, 0);
        x.gate(0, 1, 1, 0);
        x.pond(0, 60);
        x.pond(1, 60);
        for (int day = 1; day <= 120; day++) {
            x.run(1);
            E.due(day % 40, x.ofPond(0, 3));
            E.due(day % 40, x.ofPond(1, 3));
        }
        x.undo();
        E.due(39, x.ofPond(0, 3));
        // Also in the midst of a run.
        x.run(20);
        E.due(19, x.ofPond(0, 3));
        E.due(139, x.house(3));
    }

    private static void tenthsOfAYear() {
        E.promise(38);
        Ditchright x = new Ditchright();
        x.reach(-1, 0, 0, 0);
        for (int k = 0; k < 4; k++) {
            x.gate(0, k, 40, 0);
            x.right(k, 40, 15);
        }
        int[] springs = {0, 1, 5, 9, 10, 11, 19, 33, 59, 60};
        for (int tenths = 0; tenths <= 20; tenths++) {
            x.year(tenths, 0, 0, 0, 0, 0);
            for (int spring : springs) {
                x.spring(0, spring);
                int all = 0;
                for (int k = 0; k < 4; k++) {
                    all += x.sure(k, 1);
                }
                E.due(spring * tenths / 10, all);
            }
            x.forget();
            if (tenths % 5 == 4) {
                // One object is good for 512 calls.
                x = twin();
            }
        }
    }

    private static Ditchright twin() {
        Ditchright x = new Ditchright();
        x.reach(-1, 0, 0, 0);
        for (int k = 0; k < 4; k++) {
            x.gate(0, k, 40, 0);
            x.right(k, 40, 15);
        }
        return x;
    }

    private static void pondSeeps() {
        E.promise(45);
        Ditchright x = new Ditchright();
        x.reach(-1, 60, 0, 0);
        x.gate(0, 0, 40, 0);
        x.gate(0, 1, 40, 0);
        x.pond(0, 60);
        x.pond(1, 60);
        x.wish(1, 0);
        for (int drops = 1; drops <= 40; drops++) {
            x.wish(0, drops);
            x.run(1);
            // A tenth goes, rounded down: none of 9, one of 10.
            E.due(drops - drops / 10, x.ofPond(0, 4));
            E.due(drops, x.ofPond(0, 3));
            x.undo();
            x.undo();
        }
        // Each ACCOUNT for itself: 9 and 9 lose nothing, though they are 18.
        x.wish(0, 9);
        x.wish(1, 9);
        x.run(1);
        x.wish(0, 0);
        x.wish(1, 0);
        x.carry(1, 1, 0);
        x.run(1);
        E.due(18, x.ofPond(0, 2));
        E.due(9, x.ofPond(0, 4));
        E.due(9, x.ofPond(0, 5));
    }

    private static void letComesTomorrowAlone() {
        E.promise(20);
        Ditchright x = Rivers.GATE.made();
        x.pond(0, 60);
        x.run(1);
        E.due(11, x.ofPond(0, 4));
        x.let(0, 0, 4);
        x.let(0, 0, 5);
        E.due(9, x.ofPond(0, 7));
        E.due(30, x.ofReach(0, 4));
        x.run(1);
        E.due(0, x.ofPond(0, 7));
        E.due(39, x.ofReach(0, 4));
        E.due(30, x.ofReach(0, 1));
        x.run(1);
        E.due(30, x.ofReach(0, 4));
        x.undo();
        E.due(39, x.ofReach(0, 4));
        x.undo();
        E.due(9, x.ofPond(0, 7));
        x.undo();
        E.due(4, x.ofPond(0, 7));
        x.run(2);
        E.due(30, x.ofReach(0, 4));
    }

    /** It comes at the GATE of the POND out of which it is LET, not of the owner's. */
    private static void letIntoThePondsReach() {
        Ditchright x = new Ditchright();
        x.reach(-1, 20, 0, 0);
        x.reach(0, 20, 0, 0);
        x.gate(0, 0, 9, 0);
        x.gate(1, 0, 9, 0);
        x.pond(0, 60);
        x.pond(1, 60);
        x.run(1);
        E.due(9, x.carry(1, 1, 0));
        E.due(2, x.let(1, 0, 7));
        E.due(7, x.ofPond(0, 7));
        E.due(0, x.ofPond(1, 7));
        E.due(9, x.ofPond(0, 4));
        x.run(1);
        E.due(27, x.ofReach(0, 4));
        E.due(20, x.ofReach(1, 4));
    }

    private static void hoursByParts() {
        E.promise(22);
        for (int one = 1; one <= 9; one++) {
            for (int two = 1; two <= 9; two++) {
                Ditchright x = new Ditchright();
                x.member(9, one);
                x.member(1, two);
                int first = 24 * one / (one + two);
                int second = 24 * two / (one + two);
                // The one that is left is the first one's.
                first += 24 - first - second;
                for (int h = 0; h < 24; h++) {
                    E.due(h < first ? 0 : 1, x.hour(h, false));
                }
            }
        }
        // 24 * 9 / 37 is 5, 24 / 37 is 0: of the 4 that are left the first four have one each.
        Ditchright x = new Ditchright();
        for (int k = 0; k < 4; k++) {
            x.member(1, 9);
        }
        x.member(1, 1);
        for (int h = 0; h < 24; h++) {
            E.due(h / 6, x.hour(h, false));
        }
        E.due("", x.hours(4, false));
        // 24 / 37 first: 0 and one that is left.
        Ditchright y = new Ditchright();
        y.member(1, 1);
        for (int k = 0; k < 4; k++) {
            y.member(1, 9);
        }
        E.due("0", y.hours(0, false));
        E.due("1 2 3 4 5 6", y.hours(1, false));
        E.due("19 20 21 22 23", y.hours(4, false));
    }

    /** All of SUM: it has that GATE then, and nothing else is other. */
    private static void moveOfAll() {
        E.promise(15);
        Ditchright x = Rivers.FORK.made();
        x.wish(0, 4);
        x.run(2);
        x.measure(0, 1, 9);
        int[] before = new int[11];
        for (int what = 0; what <= 10; what++) {
            before[what] = x.ofRight(0, what);
        }
        E.due(0, x.move(0, 1, 6));
        for (int what = 0; what <= 10; what++) {
            E.due(what == 1 ? 1 : before[what], x.ofRight(0, what));
        }
        E.due(9, x.had(0, 1));
        E.due(4, x.had(0, 2));
        E.due(0, x.ofGate(0, 6));
        E.due(2, x.ofGate(1, 6));
        E.due(5, x.house(2));
        x.undo();
        // One drop fewer, and a new one has them, without DEBT and IDLE and what it HAD.
        E.due(5, x.move(0, 1, 5));
        E.due(5, x.ofRight(0, 7));
        E.due(0, x.ofRight(5, 7));
        E.due(1, x.ofRight(0, 5));
        E.due(5, x.ofRight(5, 5));
        E.due(-1, x.had(5, 1));
        E.due(9, x.had(0, 1));
        x.undo();
        E.due(5, x.house(2));
        E.due(4, x.ofRight(0, 5));
    }

    /** HARMED is who has less; who has as much, or more, the moved one itself, and the new one are not. */
    private static void harmedHasLess() {
        E.promise(36);
        Ditchright x = Rivers.GATE.made();
        x.gate(0, 0, 12, 0);
        x.gate(0, 9, 12, 0);
        x.right(0, 6, 15);
        x.right(2, 6, 15);
        x.spring(0, 12);
        E.due(0, x.harms(0, 1, 6));
        E.due(0, x.harms(0, 2, 6));
        x.right(2, 1, 15);
        // BOUND of GATE 2 is full then: 2 has nothing before and behind it.
        E.due(0, x.harms(0, 2, 6));
        x.spring(0, 13);
        E.due(1, x.share(2, true));
        E.due(1, x.harms(0, 2, 6));
        E.due(0, x.harms(0, 1, 6));
        // The moved one itself has less at a dry GATE.
        Ditchright y = Rivers.FORK.made();
        y.spring(3, 0);
        E.due(6, y.share(1, true));
        E.due(0, y.harms(1, 3, 4));
        E.due(5, y.move(1, 3, 4));
        E.due(2, y.share(1, true));
        E.due(0, y.share(5, true));
    }

    private static void harmedInEachYear() {
        Ditchright x = new Ditchright();
        x.reach(-1, 0, 0, 0);
        x.reach(0, 9, 0, 0);
        x.gate(0, 0, 9, 0);
        x.gate(1, 0, 9, 0);
        x.right(0, 4, 15);
        x.fish(1, 5);
        x.born(1, 1);
        // Today just 9: none.
        E.due(0, x.harms(0, 1, 4));
        for (int k = 1; k <= 4; k++) {
            x.year(0, 9, 0, 0, 0, 0);
            E.due(k, x.harms(0, 1, 4));
        }
        x.spring(1, 8);
        E.due(5, x.harms(0, 1, 4));
        x.forget();
        E.due(1, x.harms(0, 1, 4));
        // A YEAR with nothing harms none, one with twice as much neither.
        x.year(0, 0, 0, 0, 0, 0);
        x.year(0, 20, 0, 0, 0, 0);
        E.due(1, x.harms(0, 1, 4));
    }

    private static void apartBelowOnceOrMore() {
        E.promise(15);
        Ditchright x = new Ditchright();
        for (int k = 0; k < 6; k++) {
            x.reach(k - 1, 60, 0, 0);
            x.gate(k, 0, 40, 0);
        }
        x.right(5, 1, 15);
        // BELOW by up to five times DOWN, and back.
        for (int gate = 0; gate < 5; gate++) {
            E.due(0, x.move(0, gate, 1));
            E.due(0, x.move(0, 5, 1));
        }
        x.lead(3, -1);
        for (int gate = 0; gate < 3; gate++) {
            int other = gate;
            E.dueThrow(STATE, () -> x.move(0, other, 1));
        }
        E.due(0, x.move(0, 3, 1));
        E.due(0, x.harms(0, 0, 1));
    }

    private static void whatThrowsIsNoStep() {
        E.promise(27);
        Ditchright x = Rivers.GATE.made();
        x.right(0, 5, 15);
        E.dueThrow(Checks.INDEX, () -> x.right(1, 5, 15));
        E.dueThrow(ARGUMENT, () -> x.run(21));
        E.dueThrow(STATE, () -> x.gate(0, 5, 1, 1));
        E.due(3, x.house(6));
        E.due(2, x.undo());
        E.due(0, x.house(2));
    }

    /** The 512th call is answered as each other one. */
    private static void upToTheLastCall() {
        E.promise(54);
        Ditchright x = Rivers.GATE.made();
        Ditchright y = Rivers.GATE.made();
        for (int k = 3; k <= 509; k++) {
            x.run(20);
            y.run(20);
        }
        E.due(507 * 20, x.house(3));
        E.due(true, x.isSound());
        y.house(3);
        y.isSound();
        E.due(y.digest(), x.digest());
        Ditchright z = new Ditchright();
        for (int k = 1; k <= 512; k++) {
            E.due(k, z.knock());
        }
    }
}
