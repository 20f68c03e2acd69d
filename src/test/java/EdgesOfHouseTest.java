/** Edges of the promises 20 to 27: ponds, the ditch house, steps back. */
public final class EdgesOfHouseTest {
    private static final Edges E = new Edges();
    private static final Class<?> INDEX = Checks.INDEX;
    private static final Class<?> ARGUMENT = Checks.ARGUMENT;
    private static final Class<?> STATE = Checks.STATE;
    /** The owner 0 has 36 drops in POND 0, and 49 in POND 1, which has room for 11 more; the owner 1 has none. */
    private static final Edges.Build WET = EdgesOfHouseTest::wet;
    private static final Edges.Build MEMBERS = EdgesOfHouseTest::members;

    public static void main(String[] args) {
        letNumbers();
        letUpToTheAccount();
        letSixty();
        letExceptionsAhead();
        letOfTheOtherOwner();
        letBehindUndo();
        carryNumbers();
        carryNothing();
        carryUpToTheRoom();
        memberNumbers();
        memberFull();
        memberTellsAnew();
        swapNumbers();
        swapAlike();
        sellNumbers();
        sellToTheOwner();
        feastNumbers();
        feastRoundTheClock();
        roundEmptyAndFull();
        undoNone();
        undoEight();
        undoLeavesSlipAndCounts();
        undoOfWhatIsNoStep();
        E.end();
    }

    private static Ditchright wet() {
        Ditchright x = new Ditchright();
        x.reach(-1, 60, 0, 0);
        x.gate(0, 0, 40, 0);
        x.gate(0, 1, 40, 0);
        x.pond(0, 60);
        x.pond(1, 60);
        x.wish(1, 0);
        // 40 less 4; 24 more, less 6.
        x.run(2);
        x.carry(0, 0, 1);
        // 54 less 5 in POND 1, and again 40 less 4 in POND 0.
        x.run(1);
        return x;
    }

    private static void letNumbers() {
        E.promise(20);
        E.due(36, wet().ofPond(0, 4));
        E.due(49, wet().ofPond(1, 4));
        E.range(INDEX, WET, 0, 1, (x, n) -> x.let(n, 0, 1));
        E.range(INDEX, WET, 0, 1, (x, n) -> x.let(0, n, 1));
        E.range(INDEX, Rivers.FULL, 0, 2, (x, n) -> x.let(n, 2, 1));
        E.range(INDEX, Rivers.FULL, 0, 2, (x, n) -> x.let(2, n, 1));
        E.range(ARGUMENT, WET, 1, 60, (x, n) -> x.let(0, 0, n));
        E.step(WET, x -> x.let(0, 0, 36));
        E.step(WET, x -> x.let(0, 1, 1));
    }

    private static void letUpToTheAccount() {
        E.in(35, WET, x -> x.let(0, 0, 1));
        E.in(0, WET, x -> x.let(0, 0, 36));
        E.refused(WET, x -> x.let(0, 0, 37));
        E.in(0, WET, x -> x.let(0, 1, 49));
        E.refused(WET, x -> x.let(0, 1, 50));
        // The water of another owner does not count, nor what the own one has in another POND.
        E.refused(WET, x -> x.let(1, 0, 1));
        E.refused(WET, x -> x.let(1, 1, 60));
        Ditchright x = wet();
        E.due(1, x.let(0, 0, 35));
        E.due(-9, x.let(0, 0, 2));
        E.due(0, x.let(0, 0, 1));
        E.due(-9, x.let(0, 0, 1));
        E.due(36, x.ofPond(0, 7));
        E.due(0, x.ofPond(0, 2));
        E.due(2, x.house(7));
        x.run(1);
        E.due(96, x.ofReach(0, 4));
        E.due(0, x.ofPond(0, 7));
        x.run(1);
        E.due(60, x.ofReach(0, 4));
    }

    private static void letSixty() {
        Edges.Build brim = () -> {
            Ditchright x = wet();
            x.carry(0, 0, 1);
            return x;
        };
        E.in(0, brim, x -> x.let(0, 1, 60));
        E.in(1, brim, x -> x.let(0, 1, 59));
        E.out(ARGUMENT, brim, x -> x.let(0, 1, 61));
    }

    private static void letExceptionsAhead() {
        E.out(ARGUMENT, WET, x -> x.let(1, 0, 61));
        E.out(ARGUMENT, WET, x -> x.let(1, 0, 0));
        E.out(INDEX, WET, x -> x.let(2, 0, 60));
        E.out(INDEX, WET, x -> x.let(1, 2, 0));
        E.out(INDEX, WET, x -> x.let(-1, -1, 61));
    }

    /** Each ACCOUNT is its owner's: what one lets out or carries over is not the other one's. */
    private static void letOfTheOtherOwner() {
        Ditchright x = wet();
        x.wish(1, 40);
        x.wish(0, 0);
        x.run(1);
        // 33 and 45 of the owner 0; 15 had room, less 1, of the owner 1.
        int[][] before = {{33, 0}, {45, 10}};
        for (int pond = 0; pond < 2; pond++) {
            for (int owner = 0; owner < 2; owner++) {
                E.due(before[pond][owner], x.ofPond(pond, 4 + owner));
            }
        }
        E.due(10, x.carry(1, 1, 0));
        E.due(4, x.let(1, 0, 6));
        E.due(6, x.ofPond(0, 7));
        int[][] after = {{33, 4}, {45, 0}};
        for (int pond = 0; pond < 2; pond++) {
            for (int owner = 0; owner < 2; owner++) {
                E.due(after[pond][owner], x.ofPond(pond, 4 + owner));
            }
            E.due(0, x.ofPond(pond, 6));
        }
    }

    private static void letBehindUndo() {
        Ditchright x = wet();
        x.let(0, 0, 36);
        E.due(-9, x.let(0, 0, 1));
        x.undo();
        E.due(0, x.ofPond(0, 7));
        E.due(35, x.let(0, 0, 1));
        E.due(1, x.house(7));
        x.run(1);
        E.due(61, x.ofReach(0, 4));
        x.undo();
        E.due(60, x.ofReach(0, 4));
        E.due(1, x.ofPond(0, 7));
    }

    private static void carryNumbers() {
        E.promise(21);
        E.range(INDEX, WET, 0, 1, (x, n) -> x.carry(n, 0, 1));
        E.range(INDEX, Rivers.FULL, 0, 1, (x, n) -> x.carry(0, n == 2 ? 3 : n, 2));
        E.range(INDEX, Rivers.FULL, 0, 1, (x, n) -> x.carry(0, 2, n == 2 ? 3 : n));
        E.out(ARGUMENT, WET, x -> x.carry(0, 0, 0));
        E.out(ARGUMENT, WET, x -> x.carry(1, 1, 1));
        E.out(INDEX, WET, x -> x.carry(2, 0, 0));
        E.out(INDEX, WET, x -> x.carry(0, 2, 2));
        E.out(INDEX, WET, x -> x.carry(0, -1, -1));
        E.step(WET, x -> x.carry(0, 1, 0));
    }

    private static void carryNothing() {
        // None in it: that is 0, and is a STEP.
        E.in(0, WET, x -> x.carry(1, 0, 1));
        E.step(WET, x -> x.carry(1, 0, 1));
        Ditchright x = wet();
        E.due(11, x.carry(0, 0, 1));
        // No room: that is 0, too.
        E.due(0, x.carry(0, 0, 1));
        E.due(25, x.ofPond(0, 4));
        E.due(60, x.ofPond(1, 2));
        E.due(0, x.house(7));
    }

    private static void carryUpToTheRoom() {
        // 36 in POND 0 leave room for 24; all 36 go, were there room for 36.
        E.in(24, WET, x -> x.carry(0, 1, 0));
        E.in(11, WET, x -> x.carry(0, 0, 1));
        Ditchright x = wet();
        x.let(0, 1, 25);
        E.due(36, x.carry(0, 0, 1));
        E.due(0, x.ofPond(0, 2));
        E.due(60, x.ofPond(1, 2));
        x.undo();
        x.let(0, 1, 1);
        E.due(36, x.carry(0, 0, 1));
        E.due(59, x.ofPond(1, 2));
        x.undo();
        x.undo();
        x.undo();
        x.let(0, 1, 24);
        E.due(35, x.carry(0, 0, 1));
        E.due(1, x.ofPond(0, 2));
    }

    private static Ditchright members() {
        Ditchright x = new Ditchright();
        x.member(1, 1);
        x.member(9, 3);
        x.sell(2, 1);
        return x;
    }

    private static void memberNumbers() {
        E.promise(22);
        E.range(ARGUMENT, Rivers.EMPTY, 1, 9, (x, n) -> x.member(n, 1));
        E.range(ARGUMENT, Rivers.EMPTY, 1, 9, (x, n) -> x.member(1, n));
        E.range(ARGUMENT, Rivers.SOME, 1, 9, (x, n) -> x.member(n, 9));
        E.range(ARGUMENT, Rivers.SOME, 1, 9, (x, n) -> x.member(9, n));
        E.step(Rivers.SOME, x -> x.member(9, 9));
        E.step(Rivers.EMPTY, x -> x.member(1, 1));
    }

    private static void memberFull() {
        E.fills(Rivers.EMPTY, 0, 5, (x, n) -> x.member(9, 1));
        E.fills(Rivers.SOME, 2, 5, (x, n) -> x.member(1, 9));
        E.out(STATE, Rivers.FULL, x -> x.member(1, 1));
        E.out(ARGUMENT, Rivers.FULL, x -> x.member(0, 1));
        E.out(ARGUMENT, Rivers.FULL, x -> x.member(1, 0));
        E.out(ARGUMENT, Rivers.FULL, x -> x.member(10, 1));
        E.out(ARGUMENT, Rivers.FULL, x -> x.member(1, 10));
    }

    private static void memberTellsAnew() {
        Ditchright x = members();
        x.swap(0, 23);
        x.feast(5);
        E.due(2, x.member(1, 9));
        // 24 / 13 is 1, 72 / 13 is 5, 216 / 13 is 16: two are left for the first two.
        E.due("0 1", x.hours(0, false));
        E.due("2 3 4 5 6 7", x.hours(1, false));
        E.due("8 9 10 11 12 13 14 15 16 17 18 19 20 21 22 23", x.hours(2, false));
        E.due(0, x.round());
        x.undo();
        x.undo();
        // As it was ahead of that: told for two, swapped, later by 5 hours, one SOLD.
        E.due(1, x.hour(7, true));
        E.due(0, x.hour(7, false));
        E.due(1, x.hour(5, false));
        E.due(0, x.hour(4, false));
        E.due(1, x.round());
    }

    private static void swapNumbers() {
        E.promise(23);
        E.range(ARGUMENT, MEMBERS, 0, 23, (x, n) -> x.swap(n, 5));
        E.range(ARGUMENT, MEMBERS, 0, 23, (x, n) -> x.swap(5, n));
        E.out(STATE, Rivers.EMPTY, x -> x.swap(0, 0));
        E.out(STATE, Rivers.EMPTY, x -> x.swap(23, 0));
        E.out(ARGUMENT, Rivers.EMPTY, x -> x.swap(24, 0));
        E.out(ARGUMENT, Rivers.EMPTY, x -> x.swap(0, 24));
        E.out(ARGUMENT, Rivers.EMPTY, x -> x.swap(-1, 24));
        Ditchright x = new Ditchright();
        x.member(1, 1);
        E.due(0, x.swap(0, 23));
        x.undo();
        x.undo();
        E.dueThrow(STATE, () -> x.swap(0, 23));
        E.step(MEMBERS, y -> y.swap(0, 23));
        E.step(MEMBERS, y -> y.swap(0, 0));
    }

    private static void swapAlike() {
        // 0 to 5 are those of 0, 6 to 23 of 1; 2 is SOLD to 1.
        E.in(1, MEMBERS, x -> x.swap(5, 6));
        E.in(0, MEMBERS, x -> x.swap(4, 5));
        E.in(0, MEMBERS, x -> x.swap(6, 23));
        E.in(0, MEMBERS, x -> x.swap(5, 5));
        E.in(0, MEMBERS, x -> x.swap(2, 3));
        E.in(1, MEMBERS, x -> x.swap(2, 6));
        Ditchright x = members();
        x.swap(2, 6);
        E.due(1, x.hour(2, false));
        E.due(1, x.hour(2, true));
        E.due(0, x.hour(6, false));
        E.due(0, x.hour(6, true));
        x.sell(6, 1);
        x.swap(6, 7);
        E.due(1, x.hour(6, true));
        E.due(0, x.hour(7, true));
        E.due(2, x.round());
    }

    private static void sellNumbers() {
        E.promise(24);
        E.range(INDEX, MEMBERS, 0, 1, (x, n) -> x.sell(0, n));
        E.range(INDEX, Rivers.FULL, 0, 4, (x, n) -> x.sell(0, n));
        E.range(ARGUMENT, MEMBERS, 0, 23, (x, n) -> x.sell(n, 1));
        E.out(INDEX, MEMBERS, x -> x.sell(24, 2));
        E.out(INDEX, Rivers.EMPTY, x -> x.sell(-1, -1));
        E.step(MEMBERS, x -> x.sell(0, 1));
        E.step(MEMBERS, x -> x.sell(0, 0));
    }

    private static void sellToTheOwner() {
        Ditchright x = members();
        E.due(0, x.sell(0, 0));
        E.due(1, x.sell(23, 1));
        E.due(0, x.sell(0, 0));
        E.due(1, x.sell(2, 0));
        E.due(0, x.hour(2, true));
        // 0, 2 and 23 are SOLD, though all of them to the one that has them for good.
        E.due(3, x.round());
        E.due(0, x.round());
        x.undo();
        x.undo();
        E.due(3, x.round());
    }

    private static void feastNumbers() {
        E.promise(25);
        E.range(ARGUMENT, Rivers.EMPTY, 1, 23, (x, n) -> x.feast(n));
        E.range(ARGUMENT, MEMBERS, 1, 23, (x, n) -> x.feast(n));
        E.step(MEMBERS, x -> x.feast(23));
        E.step(Rivers.EMPTY, x -> x.feast(1));
        // The last hour comes to 0 by one hour later, the hour 1 by 23.
        E.in(1, MEMBERS, x -> x.feast(1));
        E.in(1, MEMBERS, x -> x.feast(18));
        E.in(0, MEMBERS, x -> x.feast(19));
        E.in(0, MEMBERS, x -> x.feast(23));
        // What is SOLD counts: the hour 2 comes to 0.
        E.in(1, MEMBERS, x -> x.feast(22));
    }

    private static void feastRoundTheClock() {
        Ditchright x = members();
        for (int h = 0; h < 24; h++) {
            E.due(h < 6 ? 0 : 1, x.hour(h, false));
        }
        x.feast(23);
        for (int h = 0; h < 24; h++) {
            E.due(h < 5 || h == 23 ? 0 : 1, x.hour(h, false));
            E.due(h != 1 && (h < 5 || h == 23) ? 0 : 1, x.hour(h, true));
        }
        x.feast(1);
        for (int h = 0; h < 24; h++) {
            E.due(h < 6 ? 0 : 1, x.hour(h, false));
            E.due(h != 2 && h < 6 ? 0 : 1, x.hour(h, true));
        }
        x.feast(21);
        // The hour 2 that is SOLD goes to 23.
        E.due(1, x.hour(23, true));
        E.due(0, x.hour(23, false));
        E.due(1, x.round());
        E.due(0, x.hour(23, true));
    }

    private static void roundEmptyAndFull() {
        E.promise(26);
        E.in(0, Rivers.EMPTY, Ditchright::round);
        E.step(Rivers.EMPTY, Ditchright::round);
        E.step(MEMBERS, Ditchright::round);
        Ditchright x = members();
        for (int h = 0; h < 24; h++) {
            x.sell(h, 1);
        }
        E.due("", x.hours(0, false));
        E.due(24, x.round());
        E.due("0 1 2 3 4 5", x.hours(0, false));
        E.due(0, x.round());
    }

    private static void undoNone() {
        E.promise(27);
        E.out(STATE, Rivers.EMPTY, Ditchright::undo);
        Ditchright x = new Ditchright();
        x.reach(-1, 1, 1, 1);
        E.due(0, x.undo());
        E.dueThrow(STATE, x::undo);
        E.dueThrow(STATE, x::undo);
        E.due(0, x.house(6));
        E.due(0, x.reach(-1, 1, 1, 1));
        E.due(1, x.house(6));
    }

    private static void undoEight() {
        for (int many = 0; many <= 20; many++) {
            Ditchright x = new Ditchright();
            x.reach(-1, 0, 0, 0);
            for (int k = 1; k <= many; k++) {
                x.spring(0, k);
            }
            int kept = Math.min(8, many + 1);
            E.due(kept, x.house(6));
            for (int k = kept - 1; k >= 0; k--) {
                E.due(k, x.undo());
                if (many >= 8 || k > 0) {
                    E.due(many - (kept - k), x.ofReach(0, 1));
                }
            }
            E.due(many >= 8 ? 1 : 0, x.house(0));
            E.dueThrow(STATE, x::undo);
        }
        // Behind an undo() there is room for one STEP more, and no more than that.
        Ditchright x = new Ditchright();
        x.reach(-1, 0, 0, 0);
        for (int k = 1; k <= 9; k++) {
            x.spring(0, k);
        }
        E.due(7, x.undo());
        x.spring(0, 30);
        E.due(8, x.house(6));
        x.spring(0, 31);
        E.due(8, x.house(6));
        int[] want = {30, 8, 7, 6, 5, 4, 3, 2};
        for (int k = 0; k < 8; k++) {
            x.undo();
            E.due(want[k], x.ofReach(0, 1));
        }
        E.dueThrow(STATE, x::undo);
        E.due(2, x.ofReach(0, 1));
    }

    /** All but the SLIP and what is counted in house() 6 to 8. */
    private static void undoLeavesSlipAndCounts() {
        Ditchright x = wet();
        x.let(0, 0, 1);
        x.type(12);
        x.type(9);
        x.read();
        x.let(1, 0, 1);
        x.knock();
        E.due(7, x.undo());
        E.due("g9", x.slip());
        E.due(1, x.fault());
        E.due(2, x.house(7));
        E.due(1, x.house(8));
        x.wipe();
        x.undo();
        E.due("", x.slip());
        E.due(2, x.house(7));
        E.due(2, x.knock());
    }

    private static void undoOfWhatIsNoStep() {
        Edges.Use[] none = {
            x -> x.type(3), Ditchright::wipe, Ditchright::knock, Ditchright::slip, Ditchright::fault, Ditchright::digest,
            Ditchright::isSound, x -> x.share(0, true), x -> x.byAge(0), x -> x.why(0), x -> x.calls(0),
            x -> x.harms(0, 1, 1), x -> x.greatest(0, 1), x -> x.sure(0, 1), x -> x.surety(0), x -> x.balance(0),
            x -> x.ofReach(0, 4), x -> x.ofGate(0, 4), x -> x.ofRight(0, 6), x -> x.had(0, 1), x -> x.ofPond(0, 2),
            x -> x.ofWell(0, 3), x -> x.portion(2, 0, 9), x -> x.hour(0, true), x -> x.hours(0, true), x -> x.house(0),
            x -> x.let(1, 0, 60), Ditchright::round,
        };
        for (int k = 0; k < none.length; k++) {
            Ditchright x = Rivers.SOME.made();
            x.undo();
            E.due(7, x.house(6));
            none[k].of(x);
            // round() alone is a STEP.
            E.due(k == none.length - 1 ? 8 : 7, x.house(6));
        }
        Ditchright x = Rivers.SOME.made();
        x.undo();
        // The SLIP of these tells a FISH: that is a STEP; with a FAULT it is none.
        E.due(1, x.read());
        E.due(8, x.house(6));
        x.undo();
        x.type(0);
        E.due(-7, x.read());
        E.due(7, x.house(6));
        x.wipe();
        E.due(0, x.read());
        E.due(7, x.house(6));
    }
}
