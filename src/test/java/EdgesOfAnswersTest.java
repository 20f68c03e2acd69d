import java.math.BigInteger;
import java.util.ArrayList;
import java.util.List;

/** Edges of the promises 32 to 49 and 52 to 54: what is asked. */
public final class EdgesOfAnswersTest {
    private static final Edges E = new Edges();
    private static final Class<?> INDEX = Checks.INDEX;
    private static final Class<?> ARGUMENT = Checks.ARGUMENT;
    private static final Class<?> STATE = Checks.STATE;

    public static void main(String[] args) {
        rightsThatAreThere();
        rightsBehindUndo();
        whyJustShort();
        whyOfNoWant();
        whyTheYoungestThere();
        whyTheYoungestFish();
        callsFromTheYoungest();
        callsJustLess();
        harmsNumbers();
        harmsFirstNamed();
        harmsBeyondTen();
        harmsApart();
        greatestNumbers();
        greatestNoneAndAll();
        sureNumbers();
        sureWithoutYears();
        sureFirstOfSeveral();
        suretyEnds();
        balanceNumbers();
        placesNumbers();
        hadNumbers();
        portionNumbers();
        portionOfNothingAndLeast();
        hourNumbers();
        hoursOfTheNight();
        houseNumbers();
        houseCounts();
        isSoundEmptyAndFull();
        digestWrapsAround();
        digestOfOneMore();
        E.end();
    }

    private static void rightsThatAreThere() {
        Edges.NumberUse[] uses = {
            (x, n) -> x.share(n, true), (x, n) -> x.share(n, false), Ditchright::byAge, Ditchright::why, Ditchright::calls,
            (x, n) -> x.sure(n, 0), Ditchright::surety, (x, n) -> x.ofRight(n, 0), (x, n) -> x.had(n, 1),
        };
        int[] promises = {32, 32, 33, 34, 35, 38, 39, 43, 44};
        for (int k = 0; k < uses.length; k++) {
            E.promise(promises[k]);
            E.range(INDEX, Rivers.SOME, 0, 4, uses[k]);
            E.range(INDEX, Rivers.FULL, 0, 9, uses[k]);
        }
        E.promise(38);
        E.out(INDEX, Rivers.SOME, x -> x.sure(5, 3));
        E.promise(43);
        E.out(INDEX, Rivers.SOME, x -> x.ofRight(-1, 11));
        E.promise(44);
        E.out(INDEX, Rivers.SOME, x -> x.had(5, 0));
    }

    /** A RIGHT whose coming was undone is not there. */
    private static void rightsBehindUndo() {
        Edges.Build gone = () -> {
            Ditchright x = Rivers.GATE.made();
            x.right(0, 3, 15);
            x.right(0, 3, 15);
            x.undo();
            return x;
        };
        E.promise(32);
        E.out(INDEX, gone, x -> x.share(1, true));
        E.in(3, gone, x -> x.share(0, true));
        E.promise(33);
        E.out(INDEX, gone, x -> x.byAge(1));
        E.in(0, gone, x -> x.byAge(0));
        E.promise(34);
        E.out(INDEX, gone, x -> x.why(1));
        E.promise(43);
        E.out(INDEX, gone, x -> x.ofRight(1, 0));
        E.promise(52);
        E.in(1, gone, x -> x.house(2));
    }

    private static void whyJustShort() {
        E.promise(34);
        Ditchright x = Rivers.GATE.made();
        x.right(0, 12, 15);
        x.spring(0, 12);
        E.due("-", x.why(0));
        E.due(0, x.ofGate(0, 7));
        x.spring(0, 11);
        E.due("0<D", x.why(0));
        E.due(1, x.ofGate(0, 7));
        x.spring(0, 0);
        E.due("0<D", x.why(0));
        x.spring(0, 60);
        x.right(0, 1, 15);
        E.due("1<B0", x.why(1));
        x.wish(0, 11);
        E.due("-", x.why(1));
        // Above BOUND, and more than is there, too: "B" goes ahead.
        x.wish(0, 12);
        x.spring(0, 12);
        E.due("1<B0", x.why(1));
        x.spring(0, 11);
        E.due("1<D", x.why(1));
        E.due("0<D", x.why(0));
    }

    /** A WANT of 0 is never SHORT, however dry it is. */
    private static void whyOfNoWant() {
        Ditchright x = Rivers.GATE.made();
        x.right(0, 12, 2);
        x.spring(0, 0);
        E.due("-", x.why(0));
        x.run(10);
        E.due("0<D", x.why(0));
        x.wish(0, 0);
        E.due("-", x.why(0));
        E.due("-", Rivers.GONE.made().why(0));
        E.due("", Rivers.GONE.made().calls(0));
        E.due(0, Rivers.GONE.made().share(0, true));
        E.due(0, Rivers.GONE.made().share(0, false));
    }

    /** At another GATE it is the youngest of the older ones that has something, be it one drop. */
    private static void whyTheYoungestThere() {
        Ditchright x = new Ditchright();
        x.reach(-1, 7, 0, 0);
        x.gate(0, 5, 40, 0);
        x.gate(0, 1, 40, 0);
        x.right(0, 6, 15);
        x.right(0, 1, 15);
        x.right(0, 4, 15);
        x.right(1, 2, 15);
        x.right(0, 4, 15);
        // 0 and 1 have all; 2 is as old, but has nothing, and 4 is younger.
        E.due("3<1", x.why(3));
        x.wish(1, 0);
        x.spring(0, 6);
        E.due("3<0", x.why(3));
        x.spring(0, 7);
        E.due(1, x.share(2, true));
        E.due("3<2<D", x.why(3));
        x.spring(0, 13);
        // 2 has its 4 now, 3 its 2, and 4 one drop, but 3 is not SHORT.
        E.due("-", x.why(3));
        E.due("4<D", x.why(4));
        x.spring(0, 11);
        E.due(1, x.share(3, true));
        E.due("3<2", x.why(3));
        // A STORE shuts it as well.
        Ditchright y = new Ditchright();
        y.reach(-1, 5, 0, 0);
        y.gate(0, 5, 40, 0);
        y.gate(0, 1, 40, 0);
        y.right(0, 4, 15);
        y.pond(0, 1);
        y.fish(0, 1);
        y.wish(2, 0);
        y.right(1, 2, 15);
        E.due("3<1", y.why(3));
    }

    /** At a REST it is the youngest FISH whose SHARE is above it: not one that has just as much. */
    private static void whyTheYoungestFish() {
        Ditchright x = new Ditchright();
        x.reach(-1, 9, 0, 0);
        x.reach(-1, 9, 0, 0);
        x.gate(0, 0, 40, 0);
        x.fish(0, 5);
        x.fish(0, 6);
        x.fish(0, 5);
        x.fish(1, 9);
        x.right(0, 5, 15);
        x.fish(0, 6);
        // REST is 6 with 3 taken, and 5 with one more: just one FISH is above that; that of another REACH is not there.
        E.due(3, x.share(4, true));
        E.due("4<1", x.why(4));
        x.wish(1, 5);
        // Now 4 are taken, and with one more 4 are left: 2 is the youngest of three.
        E.due(4, x.share(4, true));
        E.due("4<2", x.why(4));
        x.wish(2, 4);
        E.due("4<1", x.why(4));
        x.wish(1, 4);
        E.due("4<0", x.why(4));
        x.wish(0, 4);
        E.due("-", x.why(4));
        // The younger one never shuts it, and is SHORT itself.
        E.due("5<D", x.why(5));
    }

    /** From the youngest on, with a blank between two; none on older ones, nor on FISH, nor on who has nothing. */
    private static void callsFromTheYoungest() {
        E.promise(35);
        Ditchright x = new Ditchright();
        x.reach(-1, 10, 0, 0);
        for (int k = 0; k < 5; k++) {
            x.gate(0, 9 - k, k == 3 ? 4 : 40, 0);
        }
        x.right(0, 10, 15);
        x.right(1, 2, 15);
        x.right(2, 2, 15);
        x.pond(3, 4);
        x.right(4, 1, 15);
        x.fish(0, 5);
        // 1 at MILE 5, 4 at 6, 2 at 7, 2 at 8: one is left at 9.
        E.due(1, x.share(0, false));
        E.due("4+ 3+ 2+ 1+", x.calls(0));
        x.born(1, 7);
        E.due("1+ 4+ 3+ 2+", x.calls(0));
        x.born(0, 1);
        E.due("1+", x.calls(0));
        x.born(0, 7);
        E.due("1+", x.calls(0));
        x.born(0, 8);
        E.due("", x.calls(0));
        x.born(0, 0);
        x.wish(2, 0);
        E.due("1+ 4+ 3+", x.calls(0));
        for (int right = 1; right < 6; right++) {
            E.due("", x.calls(right));
        }
    }

    private static void callsJustLess() {
        E.promise(35);
        Ditchright x = Rivers.GATE.made();
        x.gate(0, 2, 12, 0);
        x.right(0, 5, 15);
        x.right(1, 4, 15);
        x.spring(0, 9);
        E.due("", x.calls(0));
        x.spring(0, 8);
        E.due(4, x.share(0, false));
        E.due("1+", x.calls(0));
        x.wish(0, 4);
        E.due("", x.calls(0));
        x.wish(0, 5);
        x.wish(1, 1);
        x.spring(0, 5);
        E.due("1+", x.calls(0));
        x.wish(1, 0);
        E.due("", x.calls(0));
        // By PLACE it has nothing, so that there is nothing to call for.
        x.wish(1, 4);
        x.spring(0, 0);
        E.due("", x.calls(0));
        // One drop of LOSS takes all that a CALL would bring: FUTILE.
        Ditchright y = new Ditchright();
        y.reach(-1, 0, 5, 0);
        y.reach(0, 1, 0, 0);
        y.gate(0, 0, 9, 0);
        y.gate(1, 0, 9, 0);
        y.right(0, 1, 15);
        y.right(1, 1, 15);
        E.due("", y.calls(1));
        // 1 flows on, none of it is lost.
        E.due("1+", y.calls(0));
        y.spring(0, 1);
        y.wish(0, 1);
        // 1 there now; with one more 2, of which one is lost.
        E.due("", y.calls(0));
        y.raise(0, 1);
        y.born(1, 0);
        y.born(2, 0);
        E.due(0, y.share(2, false));
        y.born(1, 3);
        E.due("1-", y.calls(2));
    }

    private static void harmsNumbers() {
        E.promise(36);
        for (int right : new int[] {-1, 5, Integer.MIN_VALUE, Integer.MAX_VALUE}) {
            E.out(INDEX, Rivers.FORK, x -> x.harms(right, 1, 1));
        }
        for (int gate : new int[] {-1, 4, Integer.MIN_VALUE, Integer.MAX_VALUE}) {
            E.out(INDEX, Rivers.FORK, x -> x.harms(0, gate, 1));
        }
        E.range(ARGUMENT, Rivers.FORK, 1, 6, (x, n) -> x.harms(0, 1, n));
        E.range(ARGUMENT, Rivers.FORK, 1, 4, (x, n) -> x.harms(0, 3, n));
        E.range(ARGUMENT, Rivers.FORK, 1, 4, (x, n) -> x.harms(3, 0, n));
        E.out(ARGUMENT, Rivers.FORK, x -> x.harms(0, 0, 1));
        E.out(ARGUMENT, Rivers.FORK, x -> x.harms(4, 1, 1));
        E.out(ARGUMENT, Rivers.SOME, x -> x.harms(2, 0, 1));
        E.out(ARGUMENT, Rivers.GONE, x -> x.harms(0, 1, 1));
        E.in(0, Rivers.GONE, x -> x.harms(1, 1, 5));
    }

    private static void harmsFirstNamed() {
        E.out(INDEX, Rivers.FORK, x -> x.harms(5, 0, 0));
        E.out(INDEX, Rivers.FORK, x -> x.harms(4, 4, 0));
        E.out(INDEX, Rivers.FORK, x -> x.harms(0, -1, 99));
    }

    private static void harmsBeyondTen() {
        E.in(0, Rivers.CROWD, x -> x.harms(0, 1, 1));
        E.in(0, Rivers.CROWD, x -> x.harms(0, 1, 2));
        // The new one would be the RIGHT 10: of the same day as 9, and so behind it.
        Ditchright x = Rivers.CROWD.made();
        x.spring(0, 2);
        x.born(9, 1);
        x.wish(9, 1);
        for (int k = 1; k < 9; k++) {
            x.wish(k, 0);
        }
        x.wish(0, 1);
        E.due(1, x.share(9, true));
        // 0 has its WISH back, as SUM of both is 1: 2 drops for these two, and 9 has none.
        E.due(1, x.harms(0, 1, 1));
        x.born(9, 0);
        E.due(0, x.harms(0, 1, 1));
        E.dueThrow(STATE, () -> x.move(0, 1, 1));
        E.due(10, x.house(2));
        E.due(2, x.ofRight(0, 3));
        E.due(1, x.ofRight(0, 5));
    }

    private static void harmsApart() {
        E.in(0, Rivers.FORK, x -> x.harms(1, 2, 6));
        E.out(STATE, Rivers.FORK, x -> x.move(1, 2, 6));
        Ditchright x = Rivers.FORK.made();
        x.spring(2, 6);
        // Older than 2, 1 takes all that there is at GATE 2; with one drop, a new one behind 2 does not.
        E.due(1, x.harms(1, 2, 6));
        E.due(0, x.harms(1, 2, 1));
    }

    private static void greatestNumbers() {
        E.promise(37);
        for (int right : new int[] {-1, 5, Integer.MIN_VALUE, Integer.MAX_VALUE}) {
            E.out(INDEX, Rivers.FORK, x -> x.greatest(right, 1));
        }
        for (int gate : new int[] {-1, 4, Integer.MIN_VALUE, Integer.MAX_VALUE}) {
            E.out(INDEX, Rivers.FORK, x -> x.greatest(0, gate));
            E.out(INDEX, Rivers.FORK, x -> x.greatest(4, gate));
        }
        E.out(ARGUMENT, Rivers.FORK, x -> x.greatest(0, 0));
        E.out(ARGUMENT, Rivers.FORK, x -> x.greatest(4, 1));
        E.out(ARGUMENT, Rivers.SOME, x -> x.greatest(2, 0));
        E.out(ARGUMENT, Rivers.GONE, x -> x.greatest(0, 1));
    }

    private static void greatestNoneAndAll() {
        // All of SUM; all that BOUND of the GATE lets; APART; beyond 10 RIGHTS.
        E.in(6, Rivers.FORK, x -> x.greatest(0, 1));
        E.in(4, Rivers.FORK, x -> x.greatest(0, 3));
        E.in(6, Rivers.FORK, x -> x.greatest(1, 2));
        E.in(2, Rivers.CROWD, x -> x.greatest(0, 1));
        E.in(5, Rivers.GONE, x -> x.greatest(1, 1));
        // A younger FISH by which the USE would go: none, one, or all but one of its drops.
        for (int spare = 0; spare <= 6; spare++) {
            Ditchright x = new Ditchright();
            x.reach(-1, 10, 0, 0);
            x.reach(0, 9, 0, 0);
            x.gate(0, 0, 20, 0);
            x.gate(1, 0, 20, 0);
            x.right(0, 6, 15);
            x.fish(1, 9 - spare);
            x.born(1, 1);
            E.due(spare, x.greatest(0, 1));
            for (int drops = 1; drops <= 6; drops++) {
                E.due(drops > spare ? 1 : 0, x.harms(0, 1, drops));
            }
        }
    }

    private static void sureNumbers() {
        E.promise(38);
        E.range(ARGUMENT, Rivers.SOME, 0, 2, (x, n) -> x.sure(0, n));
        E.range(ARGUMENT, Rivers.FULL, 0, 2, (x, n) -> x.sure(9, n));
        Ditchright x = Rivers.GATE.made();
        x.right(0, 12, 15);
        x.spring(0, 10);
        x.year(12, 0, 0, 0, 0, 0);
        E.due(1, x.sure(0, 0));
        E.due(12, x.sure(0, 1));
        E.due(0, x.sure(0, 2));
        // A drop less, and it is SHORT in that one.
        x.year(11, 0, 0, 0, 0, 0);
        E.due(1, x.sure(0, 0));
        E.due(11, x.sure(0, 1));
        E.due(1, x.sure(0, 2));
        x.wish(0, 11);
        E.due(2, x.sure(0, 0));
        E.due(11, x.sure(0, 1));
        E.due(0, x.sure(0, 2));
    }

    private static void sureWithoutYears() {
        Edges.Build none = () -> {
            Ditchright x = Rivers.GATE.made();
            x.right(0, 12, 15);
            return x;
        };
        E.in(0, none, x -> x.sure(0, 0));
        E.in(-1, none, x -> x.sure(0, 1));
        E.in(-1, none, x -> x.sure(0, 2));
        Ditchright x = none.made();
        x.year(0, 0, 0, 0, 0, 0);
        E.due(0, x.sure(0, 1));
        E.due(0, x.sure(0, 2));
        x.undo();
        E.due(-1, x.sure(0, 1));
        E.due(-1, x.sure(0, 2));
    }

    /** Of several YEARS as bad the first one. */
    private static void sureFirstOfSeveral() {
        Ditchright x = Rivers.GATE.made();
        x.right(0, 12, 15);
        x.spring(0, 10);
        x.year(9, 0, 0, 0, 0, 0);
        x.year(5, 0, 0, 0, 0, 0);
        x.year(5, 0, 0, 0, 0, 0);
        x.year(20, 0, 0, 0, 0, 0);
        E.due(1, x.sure(0, 0));
        E.due(5, x.sure(0, 1));
        E.due(1, x.sure(0, 2));
        x.wish(0, 4);
        E.due(4, x.sure(0, 0));
        E.due(4, x.sure(0, 1));
        E.due(0, x.sure(0, 2));
        x.undo();
        x.undo();
        x.year(4, 0, 0, 0, 0, 0);
        E.due(3, x.sure(0, 2));
    }

    private static void suretyEnds() {
        E.promise(39);
        Ditchright x = Rivers.GATE.made();
        x.right(0, 12, 15);
        x.spring(0, 10);
        // No YEARS: the sum of its WANTS is 0.
        E.due("-", x.surety(0));
        x.year(0, 20, 20, 20, 20, 20);
        E.due("0/1", x.surety(0));
        x.year(20, 0, 0, 0, 0, 0);
        E.due("1/2", x.surety(0));
        x.year(1, 0, 0, 0, 0, 0);
        // 0, 12 and 1 of 36.
        E.due("13/36", x.surety(0));
        x.year(11, 0, 0, 0, 0, 0);
        E.due("1/2", x.surety(0));
        x.wish(0, 1);
        E.due("3/4", x.surety(0));
        x.wish(0, 0);
        E.due("-", x.surety(0));
        x.forget();
        x.wish(0, 12);
        E.due("-", x.surety(0));
        x.year(12, 0, 0, 0, 0, 0);
        E.due("1/1", x.surety(0));
    }

    private static void balanceNumbers() {
        E.promise(40);
        E.range(ARGUMENT, Rivers.EMPTY, 0, 4, Ditchright::balance);
        E.range(ARGUMENT, Rivers.SOME, 0, 4, Ditchright::balance);
        E.range(ARGUMENT, Rivers.FULL, 0, 4, Ditchright::balance);
        Ditchright x = Rivers.FULL.made();
        E.due(x.balance(0), x.balance(1) + x.balance(2) + x.balance(3) + x.balance(4));
    }

    private static void placesNumbers() {
        E.promise(41);
        E.range(INDEX, Rivers.SOME, 0, 2, (x, n) -> x.ofReach(n, 0));
        E.range(INDEX, Rivers.FULL, 0, 5, (x, n) -> x.ofReach(n, 10));
        E.range(ARGUMENT, Rivers.SOME, 0, 10, (x, n) -> x.ofReach(2, n));
        E.out(INDEX, Rivers.SOME, x -> x.ofReach(3, 11));
        E.promise(42);
        E.range(INDEX, Rivers.SOME, 0, 3, (x, n) -> x.ofGate(n, 0));
        E.range(INDEX, Rivers.FULL, 0, 7, (x, n) -> x.ofGate(n, 7));
        E.range(ARGUMENT, Rivers.SOME, 0, 7, (x, n) -> x.ofGate(3, n));
        E.out(INDEX, Rivers.SOME, x -> x.ofGate(4, 8));
        E.promise(43);
        E.range(ARGUMENT, Rivers.SOME, 0, 10, (x, n) -> x.ofRight(4, n));
        E.promise(45);
        E.range(INDEX, Rivers.SOME, 0, 1, (x, n) -> x.ofPond(n, 0));
        E.range(INDEX, Rivers.FULL, 0, 2, (x, n) -> x.ofPond(n, 7));
        E.range(ARGUMENT, Rivers.SOME, 0, 7, (x, n) -> x.ofPond(1, n));
        E.out(INDEX, Rivers.SOME, x -> x.ofPond(2, 8));
        // 0 without such an owner.
        E.in(0, Rivers.SOME, x -> x.ofPond(1, 6));
        E.in(0, Rivers.FULL, x -> x.ofPond(2, 5));
        E.promise(46);
        E.range(INDEX, Rivers.SOME, 0, 1, (x, n) -> x.ofWell(n, 0));
        E.range(INDEX, Rivers.FULL, 0, 2, (x, n) -> x.ofWell(n, 3));
        E.range(ARGUMENT, Rivers.SOME, 0, 3, (x, n) -> x.ofWell(1, n));
        E.out(INDEX, Rivers.SOME, x -> x.ofWell(2, 4));
    }

    private static void hadNumbers() {
        E.promise(44);
        E.range(ARGUMENT, Rivers.SOME, 1, 5, (x, n) -> x.had(0, n));
        Ditchright x = Rivers.GATE.made();
        x.right(0, 3, 15);
        for (int day = 0; day <= 7; day++) {
            for (int ago = 1; ago <= 5; ago++) {
                // Kept are the last 5 DAYS; ahead of DAY 0 there was none.
                E.due(ago > day ? -1 : (day - ago) % 4, x.had(0, ago));
            }
            x.wish(0, day % 4);
            x.run(1);
        }
    }

    private static void portionNumbers() {
        E.promise(47);
        E.range(INDEX, Rivers.SOME, 0, 1, (x, n) -> x.portion(0, n, 9));
        E.range(INDEX, Rivers.FULL, 0, 4, (x, n) -> x.portion(2, n, 9));
        E.range(ARGUMENT, Rivers.SOME, 0, 2, (x, n) -> x.portion(n, 0, 9));
        for (int how = 0; how <= 2; how++) {
            int asked = how;
            E.range(ARGUMENT, Rivers.SOME, 0, 999, (x, n) -> x.portion(asked, 1, n));
        }
        E.out(INDEX, Rivers.SOME, x -> x.portion(3, 2, 1000));
        E.out(INDEX, Rivers.SOME, x -> x.portion(-1, -1, -1));
    }

    private static void portionOfNothingAndLeast() {
        Ditchright x = new Ditchright();
        int[] areas = {2, 9, 1, 5, 4};
        for (int area : areas) {
            x.member(area, 1);
        }
        for (int drops : new int[] {0, 1, 2, 4, 5, 20, 21, 22, 999}) {
            int[] sums = new int[3];
            for (int member = 0; member < 5; member++) {
                for (int how = 0; how <= 2; how++) {
                    sums[how] += x.portion(how, member, drops);
                }
                E.due(drops / 5 + (member < drops % 5 ? 1 : 0), x.portion(0, member, drops));
            }
            // Nothing goes by, and nothing comes from nowhere.
            for (int sum : sums) {
                E.due(drops, sum);
            }
        }
        // 1 drop: alike and by area to the first one; of 2, one alike and one by area; of 3, two alike.
        int[][] one = {{1, 0, 0, 0, 0}, {1, 0, 0, 0, 0}, {1, 0, 0, 0, 0}};
        int[][] two = {{1, 1, 0, 0, 0}, {1, 1, 0, 0, 0}, {2, 0, 0, 0, 0}};
        int[][] three = {{1, 1, 1, 0, 0}, {1, 2, 0, 0, 0}, {2, 1, 0, 0, 0}};
        for (int how = 0; how <= 2; how++) {
            for (int member = 0; member < 5; member++) {
                E.due(one[how][member], x.portion(how, member, 1));
                E.due(two[how][member], x.portion(how, member, 2));
                E.due(three[how][member], x.portion(how, member, 3));
            }
        }
        // 21 areas in all: by area of 21 just these, without a rest.
        for (int member = 0; member < 5; member++) {
            E.due(areas[member], x.portion(1, member, 21));
        }
        // One MEMBER alone has all.
        Ditchright y = new Ditchright();
        y.member(9, 9);
        for (int how = 0; how <= 2; how++) {
            E.due(999, y.portion(how, 0, 999));
        }
    }

    private static void hourNumbers() {
        E.promise(48);
        E.range(ARGUMENT, Rivers.EMPTY, 0, 23, (x, n) -> x.hour(n, true));
        E.range(ARGUMENT, Rivers.SOME, 0, 23, (x, n) -> x.hour(n, false));
        Ditchright x = new Ditchright();
        x.member(1, 1);
        E.due(0, x.hour(0, true));
        E.due(0, x.hour(23, false));
        x.undo();
        E.due(-1, x.hour(0, true));
        E.due(-1, x.hour(23, false));
        // As many hours as there are, for five, and the rest to the first ones: 24 is 5, 5, 5, 5, 4.
        for (int k = 0; k < 5; k++) {
            x.member(1, 9);
        }
        for (int h = 0; h < 24; h++) {
            E.due(h / 5, x.hour(h, false));
        }
    }

    private static void hoursOfTheNight() {
        E.promise(49);
        E.range(INDEX, Rivers.SOME, 0, 1, (x, n) -> x.hours(n, true));
        E.range(INDEX, Rivers.FULL, 0, 4, (x, n) -> x.hours(n, false));
        Edges.Build two = () -> {
            Ditchright x = new Ditchright();
            x.member(1, 9);
            x.member(1, 1);
            for (int h = 0; h < 24; h++) {
                x.sell(h, 0);
            }
            return x;
        };
        E.in("", two, x -> x.hours(1, false));
        E.in("", two, x -> x.hours(1, true));
        for (int h = 0; h < 24; h++) {
            Ditchright x = two.made();
            x.sell(h, 1);
            boolean isNight = h <= 5 || h >= 18;
            E.due("" + h, x.hours(1, false));
            E.due(isNight ? "" + h : "", x.hours(1, true));
        }
        Ditchright x = two.made();
        x.sell(5, 1);
        x.sell(6, 1);
        x.sell(17, 1);
        x.sell(18, 1);
        E.due("5 6 17 18", x.hours(1, false));
        E.due("5 18", x.hours(1, true));
    }

    private static void houseNumbers() {
        E.promise(52);
        E.range(ARGUMENT, Rivers.EMPTY, 0, 10, Ditchright::house);
        E.range(ARGUMENT, Rivers.FULL, 0, 10, Ditchright::house);
        int[] full = {6, 8, 10, 11, 4, 5, 8, 0, 0, 3, 3};
        for (int what = 0; what <= 10; what++) {
            int asked = what;
            E.in(full[what], Rivers.FULL, x -> x.house(asked));
        }
    }

    /** What is counted under 6, 7 and 8. */
    private static void houseCounts() {
        Ditchright x = Rivers.SOME.made();
        E.due(0, x.house(7));
        E.due(-9, x.let(1, 0, 60));
        E.due(1, x.house(7));
        x.type(0);
        E.due(-7, x.read());
        E.due(2, x.house(7));
        E.due(6, x.fault());
        E.due(2, x.house(7));
        E.dueThrow(ARGUMENT, () -> x.let(1, 0, 61));
        E.dueThrow(INDEX, () -> x.let(2, 0, 60));
        E.due(2, x.house(7));
        x.undo();
        E.due(2, x.house(7));
        x.harms(0, 1, 1);
        E.due(2, x.house(7));
    }

    private static void isSoundEmptyAndFull() {
        E.promise(53);
        for (Edges.Build build : new Edges.Build[] {Rivers.EMPTY, Rivers.SOME, Rivers.FULL, Rivers.GATE, Rivers.CROWD,
            Rivers.GONE, Rivers.FORK}) {
            E.in(true, build, Ditchright::isSound);
            Ditchright x = build.made();
            int steps = x.house(6);
            for (int k = 0; k < steps; k++) {
                x.undo();
                E.due(true, x.isSound());
            }
        }
        // PONDS that are full to the brim, dry springs, no WANT at all.
        Ditchright x = Rivers.FULL.made();
        for (int k = 0; k < 6; k++) {
            x.spring(k, 0);
        }
        E.due(true, x.isSound());
        for (int k = 0; k < 10; k++) {
            x.wish(k, 0);
        }
        E.due(true, x.isSound());
    }

    /** All that digest() goes through, in its order. */
    private static List<Long> told(Ditchright x) {
        List<Long> v = new ArrayList<>();
        add(v, 10, what -> x.house(what));
        for (int k = 0; k < x.house(0); k++) {
            int n = k;
            add(v, 10, what -> x.ofReach(n, what));
        }
        for (int k = 0; k < x.house(1); k++) {
            int n = k;
            add(v, 7, what -> x.ofGate(n, what));
        }
        for (int k = 0; k < x.house(2); k++) {
            int n = k;
            add(v, 10, what -> x.ofRight(n, what));
            v.add((long) x.share(k, true));
            v.add((long) x.share(k, false));
            add(v, 2, what -> x.sure(n, what));
            v.add((long) x.why(k).length());
            v.add((long) x.calls(k).length());
            v.add((long) x.surety(k).length());
            add(v, 4, what -> x.had(n, what + 1));
        }
        add(v, 4, what -> x.balance(what));
        for (int k = 0; k < x.house(9); k++) {
            int n = k;
            add(v, 7, what -> x.ofPond(n, what));
        }
        for (int k = 0; k < x.house(10); k++) {
            int n = k;
            add(v, 3, what -> x.ofWell(n, what));
        }
        for (int k = 0; k < x.house(5); k++) {
            int n = k;
            add(v, 2, what -> x.portion(what, n, 100));
        }
        add(v, 23, what -> x.hour(what, true));
        v.add((long) x.fault());
        v.add((long) x.slip().length());
        v.add(x.isSound() ? 1L : 0L);
        return v;
    }

    private interface Asked {
        int answer(int what);
    }

    private static void add(List<Long> v, int most, Asked asked) {
        for (int what = 0; what <= most; what++) {
            v.add((long) asked.answer(what));
        }
    }

    /** Without an end to numbers first, and then what 64 bits of that are. */
    private static void digestWrapsAround() {
        E.promise(54);
        for (Edges.Build build : new Edges.Build[] {Rivers.EMPTY, Rivers.GATE, Rivers.SOME, Rivers.CROWD, Rivers.GONE,
            Rivers.FORK}) {
            BigInteger d = BigInteger.valueOf(6510);
            for (long v : told(build.made())) {
                d = d.multiply(BigInteger.valueOf(31)).add(BigInteger.valueOf(v));
            }
            E.due(true, d.bitLength() > 64);
            E.in(d.longValue(), build, Ditchright::digest);
        }
        E.in(11 + 5 + 24 + 3, Rivers.EMPTY, x -> told(x).size());
    }

    /** Each thing that is counted moves it; undo() brings it back but for what can be undone. */
    private static void digestOfOneMore() {
        Ditchright x = Rivers.SOME.made();
        long before = x.digest();
        x.knock();
        E.due(false, before == x.digest());
        long knocked = x.digest();
        x.type(0);
        E.due(false, knocked == x.digest());
        Ditchright y = Rivers.SOME.made();
        y.undo();
        long undone = y.digest();
        y.swap(0, 23);
        E.due(false, undone == y.digest());
        y.undo();
        E.due(undone, y.digest());
    }
}
