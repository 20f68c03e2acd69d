/** Promises 32 to 54: who gets how much, and what there is. */
public final class AnswersTest {
    private static final Checks C = new Checks();

    public static void main(String[] args) {
        share();
        shareDownstream();
        shareAnew();
        byAge();
        whyShort();
        whyLong();
        whyAtRest();
        calls();
        harms();
        greatest();
        sure();
        surety();
        balance();
        ofReach();
        ofGate();
        ofRight();
        had();
        ofPond();
        ofWell();
        portion();
        hour();
        hours();
        fault();
        slip();
        house();
        isSound();
        digest();
        C.end();
    }

    private static void share() {
        C.promise(32);
        Ditchright x = new Ditchright();
        x.reach(-1, 20, 1, 0);
        x.gate(0, 5, 10, 0);
        x.gate(0, 2, 12, 10);
        x.right(0, 10, 15);
        x.right(1, 9, 15);
        x.right(1, 7, 15);
        x.fish(0, 3);
        C.dueThrow(Checks.INDEX, () -> x.share(4, true));
        C.dueThrow(Checks.INDEX, () -> x.share(-1, false));
        // 18 behind the LOSS: by AGE 10 below, then 8 above; RETURN of a mill comes below the last GATE only.
        C.due(10, x.share(0, true));
        C.due(8, x.share(1, true));
        C.due(0, x.share(2, true));
        C.due(0, x.share(3, true));
        // By PLACE the GATE at MILE 2 is first, up to its BOUND.
        C.due(6, x.share(0, false));
        C.due(9, x.share(1, false));
        C.due(3, x.share(2, false));
        C.due(0, x.share(3, false));
        x.born(1, 4);
        // The FISH, too, is older now, and has the REST of 1.
        C.due(1, x.share(3, true));
        C.due(0, x.share(1, true));
        C.due(7, x.share(2, true));
        C.due(5, x.share(1, false));
        C.due(7, x.share(2, false));
        x.born(3, 0);
        x.born(0, 2);
        // Now 2, 3, 0, 1 by AGE: the FISH keeps 3 of the 11 that are left.
        C.due(7, x.share(2, true));
        C.due(3, x.share(3, true));
        C.due(8, x.share(0, true));
        C.due(0, x.share(1, true));
        x.wish(2, 0);
        // 5 more for 1, up to the BOUND of its GATE, were it not for the 8 and the REST of 3.
        C.due(10, x.share(0, true));
        C.due(5, x.share(1, true));
    }

    private static void shareDownstream() {
        Ditchright x = new Ditchright();
        x.reach(-1, 0, 5, 0);
        x.reach(0, 21, 0, 0);
        x.gate(0, 0, 40, 0);
        x.gate(1, 0, 40, 7);
        x.right(0, 8, 15);
        x.right(1, 21, 15);
        // 15 go down as long as 20 or less are taken: 1 goes by, 14 come back, 7 are lost and 8 left.
        C.due(8, x.share(0, true));
        C.due(20, x.share(1, true));
        C.due(21, x.share(1, false));
        C.due(7, x.share(0, false));
        Ditchright y = new Ditchright();
        y.reach(-1, 0, 5, 0);
        y.reach(0, 21, 0, 0);
        y.gate(0, 0, 40, 0);
        y.gate(1, 0, 40, 3);
        y.right(0, 8, 15);
        y.right(1, 21, 15);
        // Of 9 that are taken 2 come back, so that 14 go down and 7 are left: one too few.
        C.due(8, y.share(0, true));
        C.due(8, y.share(1, true));
        C.due(15, y.ofReach(0, 5));
        C.due(7, y.ofReach(0, 6));
        C.due(0, y.ofReach(0, 7));
    }

    /** What stood there ahead of undo(), or is known from another question, does not count. */
    private static void shareAnew() {
        Ditchright x = new Ditchright();
        x.reach(-1, 10, 0, 0);
        x.gate(0, 5, 9, 0);
        x.right(0, 5, 15);
        C.due(5, x.share(0, false));
        x.undo();
        x.fish(0, 4);
        C.due(0, x.share(0, false));
        C.due(4, x.share(0, true));
        // 2 flows into 0, and 0 into 1, whatever their numbers are.
        Ditchright y = new Ditchright();
        y.reach(-1, 10, 0, 0);
        y.reach(-1, 3, 0, 0);
        y.reach(0, 20, 0, 0);
        y.lead(0, 1);
        y.gate(1, 0, 40, 0);
        y.right(0, 40, 15);
        C.due(33, y.share(0, true));
        C.due(33, y.share(0, false));
        C.due(33, y.ofReach(1, 5));
        // Of a STORE nothing comes back, by PLACE, too.
        Ditchright z = new Ditchright();
        z.reach(-1, 2, 0, 0);
        z.reach(0, 9, 0, 0);
        z.gate(0, 0, 40, 0);
        z.gate(1, 0, 7, 10);
        z.right(0, 40, 15);
        z.pond(1, 50);
        C.due(4, z.share(0, false));
        C.due(7, z.share(1, false));
        C.due(11, z.share(0, true));
        C.due(0, z.share(1, true));
    }

    private static void byAge() {
        C.promise(33);
        Ditchright x = new Ditchright();
        C.dueThrow(Checks.INDEX, () -> x.byAge(0));
        x.reach(-1, 20, 1, 0);
        x.gate(0, 5, 10, 0);
        x.right(0, 1, 15);
        x.fish(0, 1);
        x.pond(0, 1);
        x.right(0, 1, 15);
        for (int k = 0; k < 4; k++) {
            C.due(k, x.byAge(k));
        }
        C.dueThrow(Checks.INDEX, () -> x.byAge(4));
        C.dueThrow(Checks.INDEX, () -> x.byAge(-1));
        x.born(0, 3);
        x.born(2, 3);
        x.born(1, 999);
        int[] want = {3, 0, 2, 1};
        for (int k = 0; k < 4; k++) {
            C.due(want[k], x.byAge(k));
        }
    }

    private static void whyShort() {
        C.promise(34);
        Ditchright x = new Ditchright();
        x.reach(-1, 20, 0, 0);
        x.gate(0, 5, 10, 0);
        x.gate(0, 2, 12, 0);
        x.right(0, 10, 15);
        x.right(1, 9, 15);
        x.right(1, 7, 15);
        C.dueThrow(Checks.INDEX, () -> x.why(3));
        C.dueThrow(Checks.INDEX, () -> x.why(-1));
        C.due("-", x.why(0));
        C.due("-", x.why(1));
        // One more at GATE 1 is looked at against its BOUND first, though GATE 0 would be dry, too.
        C.due(1, x.share(2, true));
        C.due("2<0", x.why(2));
        x.spring(0, 60);
        C.due(3, x.share(2, true));
        C.due("2<B1", x.why(2));
        x.spring(0, 22);
        C.due("2<B1", x.why(2));
        x.spring(0, 12);
        C.due("1<0", x.why(1));
        C.due("2<0", x.why(2));
        x.spring(0, 9);
        C.due("0<D", x.why(0));
        C.due("1<0<D", x.why(1));
        x.wish(2, 0);
        C.due("-", x.why(2));
        x.fish(0, 4);
        C.due("3<D", x.why(3));
        x.born(3, 0);
        x.born(0, 1);
        x.born(1, 2);
        // The FISH leaves 5 to the GATE 0; one more there, and its REST is too small.
        C.due("-", x.why(3));
        C.due("0<3", x.why(0));
        C.due("1<3", x.why(1));
    }

    private static void whyLong() {
        Ditchright x = new Ditchright();
        x.reach(-1, 10, 0, 0);
        for (int k = 0; k < 5; k++) {
            x.gate(0, k, 40, 0);
            x.right(k, 4, 15);
            x.born(k, 10 - k);
        }
        // Each one is older than those above it: 4 and 4 at the last two GATES, 2 at the next, then nothing.
        C.due("-", x.why(4));
        C.due("-", x.why(3));
        C.due("2<4", x.why(2));
        C.due("1<4", x.why(1));
        C.due("0<4", x.why(0));
        x.born(3, 1);
        x.born(1, 2);
        // 3, 1, 4, 2, 0 by AGE: 4, 4, and 2 for 4.
        C.due("-", x.why(1));
        C.due("4<D", x.why(4));
        C.due("0<4<D", x.why(0));
        x.spring(0, 7);
        C.due("1<3", x.why(1));
        C.due("0<3", x.why(0));
        x.spring(0, 3);
        C.due("3<D", x.why(3));
        C.due("1<3<D", x.why(1));
        C.due("4<D", x.why(4));
        // A mill dries the GATE below it, but not the REACH below.
        Ditchright z = new Ditchright();
        z.reach(-1, 0, 0, 0);
        z.reach(0, 10, 0, 0);
        z.gate(0, 5, 6, 0);
        z.gate(1, 5, 20, 0);
        z.gate(1, 0, 20, 10);
        z.right(0, 2, 15);
        z.right(0, 5, 15);
        z.right(1, 9, 15);
        z.right(2, 9, 15);
        C.due(6, z.share(3, true));
        C.due("1<B0", z.why(1));
        C.due("2<1<B0", z.why(2));
        C.due("3<2<1<B0", z.why(3));
        // Also one with a single drop shuts another one.
        z.spring(1, 7);
        C.due(1, z.share(2, true));
        C.due(6, z.share(3, true));
        C.due("3<2<1<B0", z.why(3));
        // Two at one GATE: the youngest of the older ones that has something shuts it.
        Ditchright y = new Ditchright();
        y.reach(-1, 6, 0, 0);
        y.gate(0, 5, 40, 0);
        y.gate(0, 1, 40, 0);
        y.right(0, 3, 15);
        y.right(0, 3, 15);
        y.right(0, 3, 15);
        y.right(1, 3, 15);
        C.due("2<D", y.why(2));
        C.due("3<1", y.why(3));
        y.born(3, 9);
        y.born(0, 7);
        y.born(1, 8);
        C.due("3<0", y.why(3));
        C.due("1<D", y.why(1));
        y.born(3, 7);
        // 2, 0, 3, 1 by AGE: 1 is younger, and has nothing here.
        C.due("3<0", y.why(3));
    }

    private static void whyAtRest() {
        Ditchright x = new Ditchright();
        x.reach(-1, 0, 0, 0);
        x.reach(0, 10, 0, 0);
        x.gate(1, 5, 40, 10);
        x.gate(0, 5, 40, 0);
        x.fish(1, 3);
        x.fish(1, 5);
        x.fish(1, 2);
        x.right(0, 9, 15);
        // REST is 5 with the USE's 5; one more, and just the FISH 1 is above it.
        C.due(5, x.share(3, true));
        C.due("3<1", x.why(3));
        x.wish(1, 3);
        C.due(7, x.share(3, true));
        C.due("3<1", x.why(3));
        x.wish(2, 2);
        x.born(0, 1);
        x.born(3, 2);
        C.due("3<0", x.why(3));
        x.born(1, 3);
        // Younger ones do not count: only 0 is above REST of those that are older.
        C.due("3<0", x.why(3));
        x.born(0, 4);
        C.due(8, x.share(3, true));
        C.due("3<2", x.why(3));
        C.due("1<D", x.why(1));
        C.due("0<D", x.why(0));
        // What a mill takes comes back for the REACH below, where a USE with an older one is not shut by it.
        Ditchright y = new Ditchright();
        y.reach(-1, 0, 0, 0);
        y.reach(0, 10, 0, 0);
        y.gate(1, 5, 40, 5);
        y.gate(0, 5, 40, 0);
        y.right(1, 6, 15);
        y.right(0, 20, 15);
        // 8 take, 2 go by, and 4 come back; 9 take, and 1 and 4 are too few.
        C.due(6, y.share(0, true));
        C.due(8, y.share(1, true));
        C.due("1<0", y.why(1));
        y.born(0, 5);
        C.due(10, y.share(1, true));
        C.due("1<D", y.why(1));
        C.due("0<D", y.why(0));
        y.fish(0, 7);
        y.born(2, 0);
        y.born(1, 3);
        C.due(6, y.share(1, true));
        C.due("1<2", y.why(1));
    }

    private static void calls() {
        C.promise(35);
        Ditchright x = new Ditchright();
        x.reach(-1, 3, 0, 0);
        x.reach(0, 10, 0, 0);
        x.reach(0, 5, 0, 0);
        x.gate(0, 5, 40, 0);
        x.gate(1, 5, 40, 10);
        x.gate(1, 2, 40, 0);
        x.gate(2, 5, 40, 0);
        x.right(0, 20, 15);
        x.right(1, 4, 15);
        x.right(2, 3, 15);
        x.pond(3, 4);
        x.fish(0, 1);
        C.dueThrow(Checks.INDEX, () -> x.calls(5));
        C.dueThrow(Checks.INDEX, () -> x.calls(-1));
        // The USE at the mill gives all back: to call it is FUTILE.
        C.due(11, x.share(0, false));
        C.due("3+ 2+ 1-", x.calls(0));
        C.due("", x.calls(1));
        C.due("", x.calls(2));
        C.due("", x.calls(4));
        x.born(2, 5);
        C.due("2+ 3+ 1-", x.calls(0));
        x.born(2, 0);
        x.born(0, 1);
        C.due("", x.calls(0));
        x.born(3, 2);
        C.due("3+", x.calls(0));
        x.wish(3, 0);
        C.due("", x.calls(0));
        // What the BOUND keeps back, no CALL brings.
        Ditchright y = new Ditchright();
        y.reach(-1, 10, 0, 0);
        y.gate(0, 5, 5, 0);
        y.gate(0, 2, 40, 0);
        y.right(0, 4, 15);
        y.right(0, 4, 15);
        y.right(1, 3, 15);
        C.due("2-", y.calls(1));
        y.spring(0, 7);
        C.due(4, y.share(0, false));
        C.due(0, y.share(1, false));
        C.due("2+", y.calls(1));
        C.due("", y.calls(2));
        // A single drop is called for, too.
        y.wish(2, 1);
        y.spring(0, 4);
        C.due("2+", y.calls(0));
        C.due("2+", y.calls(1).replace('-', '+'));
        // Also a STORE calls; a FISH neither calls nor is called.
        Ditchright z = new Ditchright();
        z.reach(-1, 5, 0, 0);
        z.gate(0, 5, 9, 0);
        z.gate(0, 2, 9, 0);
        z.fish(0, 5);
        z.pond(0, 9);
        z.right(1, 4, 15);
        z.fish(0, 5);
        C.due("", z.calls(0));
        C.due("2+", z.calls(1));
    }

    private static void harms() {
        C.promise(36);
        Ditchright x = new Ditchright();
        x.reach(-1, 0, 0, 0);
        x.reach(0, 10, 0, 0);
        x.reach(0, 10, 0, 0);
        x.gate(0, 5, 20, 0);
        x.gate(1, 5, 8, 0);
        x.gate(2, 5, 40, 0);
        x.right(0, 9, 15);
        x.right(1, 8, 15);
        x.fish(1, 6);
        x.born(1, 3);
        x.born(2, 1);
        C.dueThrow(Checks.INDEX, () -> x.harms(3, 0, 1));
        C.dueThrow(Checks.INDEX, () -> x.harms(0, 3, 1));
        C.dueThrow(Checks.INDEX, () -> x.harms(0, -1, 99));
        C.dueThrow(Checks.ARGUMENT, () -> x.harms(2, 0, 1));
        C.dueThrow(Checks.ARGUMENT, () -> x.harms(0, 0, 1));
        C.dueThrow(Checks.ARGUMENT, () -> x.harms(0, 1, 0));
        C.dueThrow(Checks.ARGUMENT, () -> x.harms(0, 1, 9));
        C.dueThrow(Checks.ARGUMENT, () -> x.harms(0, 2, 10));
        // By AGE 0 has 9 below, the FISH 6, and 1 has 4.
        C.due(4, x.share(1, true));
        // Up at GATE 1 with 5 or more, the FISH and 1 have less; with 1, 1 alone.
        C.due(2, x.harms(0, 1, 5));
        C.due(1, x.harms(0, 1, 4));
        C.due(1, x.harms(0, 1, 1));
        // For each YEAR once more.
        x.year(10, 10, 10, 0, 0, 0);
        C.due(4, x.harms(0, 1, 5));
        C.due(2, x.harms(0, 1, 4));
        x.year(10, 20, 0, 0, 0, 0);
        // With 20 of them the BOUND of GATE 1 alone is too small.
        C.due(5, x.harms(0, 1, 5));
        // APART, and beyond 10 RIGHTS.
        C.due(3, x.harms(0, 1, 4));
        C.dueThrow(Checks.STATE, () -> x.move(1, 2, 1));
        C.due(0, x.harms(1, 2, 1));
        for (int k = 3; k < 10; k++) {
            x.right(2, 1, 15);
        }
        C.due(10, x.house(2));
        int steps = x.house(6);
        C.due(3, x.harms(0, 1, 4));
        C.due(10, x.house(2));
        C.due(steps, x.house(6));
        C.dueThrow(Checks.STATE, () -> x.move(0, 1, 4));
        C.due(0, x.house(7));
    }

    private static void greatest() {
        C.promise(37);
        Ditchright x = new Ditchright();
        x.reach(-1, 0, 0, 0);
        x.reach(0, 10, 0, 0);
        x.gate(0, 5, 20, 0);
        x.gate(1, 5, 8, 0);
        x.right(0, 9, 15);
        x.fish(1, 6);
        C.dueThrow(Checks.INDEX, () -> x.greatest(2, 0));
        C.dueThrow(Checks.INDEX, () -> x.greatest(0, 2));
        C.dueThrow(Checks.ARGUMENT, () -> x.greatest(1, 0));
        C.dueThrow(Checks.ARGUMENT, () -> x.greatest(0, 0));
        // The FISH is of the same day, and so ahead of the new one.
        C.due(8, x.greatest(0, 1));
        x.born(1, 3);
        C.due(4, x.greatest(0, 1));
        C.due(0, x.harms(0, 1, 4));
        C.due(1, x.harms(0, 1, 5));
        x.wish(1, 0);
        C.due(8, x.greatest(0, 1));
        x.wish(1, 6);
        x.year(10, 6, 0, 0, 0, 0);
        // In that YEAR the old one leaves nothing to the new one, until it has 5 or less.
        C.due(3, x.greatest(0, 1));
        C.due(0, x.harms(0, 1, 3));
        C.due(true, x.harms(0, 1, 4) > 0);
        x.spring(0, 20);
        C.due(0, x.greatest(0, 1));
        C.due(2, x.house(1));
        C.due(9, x.ofRight(0, 3));
        // The last one alone may be the one that harms; the oldest one may be HARMED.
        Ditchright y = new Ditchright();
        y.reach(-1, 10, 0, 0);
        y.gate(0, 5, 8, 0);
        y.gate(0, 2, 8, 0);
        y.fish(0, 6);
        y.right(0, 4, 15);
        y.born(0, 5);
        y.spring(0, 13);
        C.due(4, y.greatest(1, 1));
        y.reach(0, 2, 0, 0);
        y.gate(1, 1, 3, 0);
        y.fish(1, 2);
        y.born(0, 0);
        y.born(1, 1);
        y.born(2, 5);
        y.spring(1, 5);
        C.due(2, y.share(2, true));
        C.due(3, y.greatest(1, 2));
        y.wish(2, 2);
        y.spring(1, 4);
        C.due(2, y.greatest(1, 2));
        C.due(1, y.harms(1, 2, 3));
    }

    private static Ditchright dry() {
        Ditchright x = new Ditchright();
        x.reach(-1, 20, 0, 0);
        x.gate(0, 5, 20, 0);
        x.right(0, 8, 15);
        x.right(0, 8, 15);
        x.right(0, 8, 2);
        return x;
    }

    private static void sure() {
        C.promise(38);
        Ditchright x = dry();
        C.dueThrow(Checks.INDEX, () -> x.sure(3, 0));
        C.dueThrow(Checks.INDEX, () -> x.sure(-1, 9));
        C.dueThrow(Checks.ARGUMENT, () -> x.sure(0, 3));
        C.dueThrow(Checks.ARGUMENT, () -> x.sure(0, -1));
        C.due(0, x.sure(0, 0));
        C.due(-1, x.sure(0, 1));
        C.due(-1, x.sure(0, 2));
        x.year(8, 0, 0, 0, 0, 0);
        x.year(5, 0, 0, 0, 0, 0);
        x.year(3, 0, 0, 0, 0, 0);
        x.year(3, 0, 0, 0, 0, 0);
        C.due(2, x.sure(0, 0));
        C.due(6, x.sure(0, 1));
        C.due(2, x.sure(0, 2));
        C.due(1, x.sure(1, 0));
        C.due(0, x.sure(1, 1));
        C.due(2, x.sure(1, 2));
        // Not in SEASON, so never SHORT, and with nothing from the first YEAR on.
        C.due(4, x.sure(2, 0));
        C.due(0, x.sure(2, 1));
        C.due(0, x.sure(2, 2));
    }

    private static void surety() {
        C.promise(39);
        Ditchright x = dry();
        C.dueThrow(Checks.INDEX, () -> x.surety(3));
        C.due("-", x.surety(0));
        x.year(8, 0, 0, 0, 0, 0);
        C.due("1/1", x.surety(0));
        x.year(5, 0, 0, 0, 0, 0);
        C.due("5/8", x.surety(1));
        x.wish(1, 7);
        // 7 and 2 of 14.
        C.due("9/14", x.surety(1));
        x.undo();
        x.year(3, 0, 0, 0, 0, 0);
        // 8, 8, 6 of 24; 8, 2, 0 of 24.
        C.due("11/12", x.surety(0));
        x.wish(1, 7);
        x.undo();
        C.due("5/12", x.surety(1));
        C.due("-", x.surety(2));
        x.forget();
        x.year(0, 20, 20, 20, 20, 20);
        C.due("0/1", x.surety(0));
    }

    private static void balance() {
        C.promise(40);
        Ditchright x = new Ditchright();
        C.due(0, x.balance(0));
        x.reach(-1, 10, 2, 0);
        x.reach(0, 31, 3, 0);
        x.reach(-1, 7, 0, 0);
        x.gate(1, 5, 20, 3);
        x.gate(1, 6, 20, 3);
        x.gate(0, 6, 20, 9);
        x.right(0, 8, 15);
        x.pond(1, 6);
        x.right(2, 2, 15);
        x.fish(2, 3);
        C.dueThrow(Checks.ARGUMENT, () -> x.balance(5));
        C.dueThrow(Checks.ARGUMENT, () -> x.balance(-1));
        // 9 are lost above; 8 and 6 are taken, 2 come back: 10 go down, of 20 there 4 are lost.
        C.due(48, x.balance(0));
        C.due(8 - 2 + 2 - 1, x.balance(1));
        C.due(13, x.balance(2));
        C.due(6, x.balance(3));
        C.due(7 + 16 - 2 + 1, x.balance(4));
    }

    private static void ofReach() {
        C.promise(41);
        Ditchright x = new Ditchright();
        C.dueThrow(Checks.INDEX, () -> x.ofReach(0, 0));
        x.reach(-1, 10, 2, 3);
        x.reach(0, 31, 3, 1);
        x.reach(1, 5, 5, 2);
        x.gate(1, 5, 20, 3);
        x.gate(1, 6, 20, 5);
        x.right(0, 8, 15);
        x.right(1, 5, 15);
        C.dueThrow(Checks.INDEX, () -> x.ofReach(3, 99));
        C.dueThrow(Checks.INDEX, () -> x.ofReach(-1, 0));
        C.dueThrow(Checks.ARGUMENT, () -> x.ofReach(0, 11));
        C.dueThrow(Checks.ARGUMENT, () -> x.ofReach(0, -1));
        // 5 less 2 come to 31: 34, of which 10 are lost; 13 are taken, 2 and 2 come back.
        int[][] want = {
            {-1, 10, 2, 3, 10, 25, 5, 20, 20, 3, 0},
            {0, 31, 3, 1, 31, 34, 10, 11, 15, 4, 2},
            {1, 5, 5, 2, 5, 5, 2, 3, 3, 6, 0},
        };
        for (int reach = 0; reach < 3; reach++) {
            for (int what = 0; what <= 10; what++) {
                C.due(want[reach][what], x.ofReach(reach, what));
            }
        }
    }

    private static void ofGate() {
        C.promise(42);
        Ditchright x = new Ditchright();
        C.dueThrow(Checks.INDEX, () -> x.ofGate(0, 0));
        x.reach(-1, 10, 0, 0);
        x.reach(0, 9, 0, 0);
        x.gate(1, 5, 20, 3);
        x.gate(1, 6, 20, 10);
        x.right(0, 7, 15);
        x.pond(0, 5);
        x.right(1, 1, 15);
        x.fish(1, 40);
        x.fish(0, 40);
        C.dueThrow(Checks.INDEX, () -> x.ofGate(2, 99));
        C.dueThrow(Checks.INDEX, () -> x.ofGate(-1, 0));
        C.dueThrow(Checks.ARGUMENT, () -> x.ofGate(0, 8));
        C.dueThrow(Checks.ARGUMENT, () -> x.ofGate(0, -1));
        // Of STORES nothing comes back. By AGE, also right behind a question by PLACE.
        C.due("", x.calls(3));
        x.born(2, 0);
        int[][] want = {
            {1, 5, 20, 3, 9, 2, 2, 1},
            {1, 6, 20, 10, 0, 0, 1, 1},
        };
        for (int gate = 0; gate < 2; gate++) {
            for (int what = 0; what <= 7; what++) {
                C.due(want[gate][what], x.ofGate(gate, what));
            }
        }
        x.spring(1, 60);
        // The FISH are SHORT still, but have no GATE.
        C.due(12, x.ofGate(0, 4));
        C.due(0, x.ofGate(0, 7));
        C.due(1, x.ofGate(1, 4));
        C.due(1, x.ofGate(1, 5));
        C.due(0, x.ofGate(1, 7));
    }

    private static void ofRight() {
        C.promise(43);
        Ditchright x = new Ditchright();
        C.dueThrow(Checks.INDEX, () -> x.ofRight(0, 0));
        x.reach(-1, 10, 0, 0);
        x.reach(-1, 9, 0, 0);
        x.gate(1, 5, 20, 3);
        x.gate(1, 6, 12, 3);
        x.run(4);
        x.right(1, 12, 9);
        x.fish(1, 40);
        x.pond(1, 60);
        C.dueThrow(Checks.INDEX, () -> x.ofRight(3, 99));
        C.dueThrow(Checks.ARGUMENT, () -> x.ofRight(0, 11));
        C.dueThrow(Checks.ARGUMENT, () -> x.ofRight(0, -1));
        x.run(1);
        x.measure(0, 1, 20);
        x.wish(0, 10);
        int[][] want = {
            {0, 1, 4, 12, 9, 10, 0, 11, 0, 0, -1},
            {1, 1, 4, 40, 15, 40, 40, 0, 1, 0, -1},
            {2, 1, 4, 12, 15, 12, 12, 0, 1, 0, 0},
        };
        for (int right = 0; right < 3; right++) {
            for (int what = 0; what <= 10; what++) {
                C.due(want[right][what], x.ofRight(right, what));
            }
        }
        x.wish(0, 12);
        C.due(1, x.ofRight(0, 6));
        x.measure(0, 1, 0);
        C.due(-9, x.ofRight(0, 7));
        C.due(12, x.ofRight(0, 6));
        x.run(5);
        // SEASON 1 is not of its SEASONS.
        C.due(0, x.ofRight(0, 6));
    }

    private static void had() {
        C.promise(44);
        Ditchright x = new Ditchright();
        C.dueThrow(Checks.INDEX, () -> x.had(0, 1));
        x.reach(-1, 10, 0, 0);
        x.gate(0, 5, 20, 3);
        x.right(0, 12, 15);
        C.dueThrow(Checks.INDEX, () -> x.had(1, 9));
        C.dueThrow(Checks.ARGUMENT, () -> x.had(0, 0));
        C.dueThrow(Checks.ARGUMENT, () -> x.had(0, 6));
        C.due(-1, x.had(0, 1));
        x.run(1);
        x.wish(0, 4);
        x.run(1);
        x.fish(0, 3);
        x.born(1, 0);
        C.due(4, x.had(0, 1));
        C.due(10, x.had(0, 2));
        C.due(-1, x.had(0, 3));
        for (int ago = 1; ago <= 5; ago++) {
            C.due(-1, x.had(1, ago));
        }
        x.run(3);
        C.due(3, x.had(1, 3));
        C.due(-1, x.had(1, 4));
        C.due(10, x.had(0, 5));
        x.measure(0, 5, 1);
        C.due(1, x.had(0, 5));
        C.due(4, x.had(0, 4));
        x.run(1);
        C.due(4, x.had(0, 5));
        x.undo();
        C.due(1, x.had(0, 5));
        x.undo();
        C.due(10, x.had(0, 5));
    }

    private static void ofPond() {
        C.promise(45);
        Ditchright x = new Ditchright();
        C.dueThrow(Checks.INDEX, () -> x.ofPond(0, 0));
        x.reach(-1, 40, 0, 0);
        x.gate(0, 5, 20, 3);
        x.right(0, 1, 15);
        x.pond(0, 30);
        x.pond(0, 4);
        C.dueThrow(Checks.INDEX, () -> x.ofPond(2, 99));
        C.dueThrow(Checks.ARGUMENT, () -> x.ofPond(0, 8));
        C.dueThrow(Checks.ARGUMENT, () -> x.ofPond(0, -1));
        C.due(0, x.ofPond(0, 2));
        // BOUND lets 20: 1 and 19, and nothing for the other one.
        x.run(1);
        x.wish(1, 0);
        x.run(1);
        // 19 less 1 less 1, and 4.
        x.carry(1, 1, 0);
        x.let(0, 0, 6);
        x.let(1, 0, 1);
        int[][] want = {
            {1, 30, 14, 19, 11, 3, 0, 7},
            {2, 4, 0, 4, 0, 0, 0, 0},
        };
        for (int pond = 0; pond < 2; pond++) {
            for (int what = 0; what <= 7; what++) {
                C.due(want[pond][what], x.ofPond(pond, what));
            }
        }
    }

    private static void ofWell() {
        C.promise(46);
        Ditchright x = new Ditchright();
        C.dueThrow(Checks.INDEX, () -> x.ofWell(0, 0));
        x.reach(-1, 40, 0, 0);
        x.reach(-1, 40, 0, 0);
        x.well(1, 2);
        x.pump(0, 3);
        C.dueThrow(Checks.INDEX, () -> x.ofWell(1, 99));
        C.dueThrow(Checks.ARGUMENT, () -> x.ofWell(0, 4));
        C.dueThrow(Checks.ARGUMENT, () -> x.ofWell(0, -1));
        int[] want = {1, 2, 3, 0};
        for (int what = 0; what <= 3; what++) {
            C.due(want[what], x.ofWell(0, what));
        }
        x.run(1);
        C.due(0, x.ofWell(0, 3));
        x.pump(0, 5);
        x.run(1);
        C.due(3, x.ofWell(0, 3));
        C.due(5, x.ofWell(0, 2));
        x.run(1);
        C.due(5, x.ofWell(0, 3));
        x.undo();
        x.undo();
        C.due(0, x.ofWell(0, 3));
    }

    private static void portion() {
        C.promise(47);
        Ditchright x = new Ditchright();
        C.dueThrow(Checks.INDEX, () -> x.portion(0, 0, 1));
        x.member(1, 1);
        x.member(3, 1);
        x.member(3, 1);
        C.dueThrow(Checks.INDEX, () -> x.portion(9, 3, 1));
        C.dueThrow(Checks.INDEX, () -> x.portion(0, -1, 1));
        C.dueThrow(Checks.ARGUMENT, () -> x.portion(3, 0, 1));
        C.dueThrow(Checks.ARGUMENT, () -> x.portion(-1, 0, 1));
        C.dueThrow(Checks.ARGUMENT, () -> x.portion(0, 0, 1000));
        C.dueThrow(Checks.ARGUMENT, () -> x.portion(0, 0, -1));
        int[][] want = {{34, 33, 33}, {15, 43, 42}, {17 + 8, 17 + 21, 16 + 21}};
        for (int how = 0; how <= 2; how++) {
            for (int member = 0; member < 3; member++) {
                C.due(want[how][member], x.portion(how, member, 100));
                C.due(0, x.portion(how, member, 0));
            }
        }
        // Of an odd sum the greater half is the one that goes alike.
        C.due(1, x.portion(2, 0, 1));
        C.due(2, x.portion(2, 0, 3));
        C.due(1, x.portion(2, 1, 3));
        C.due(333, x.portion(0, 2, 999));
        C.due(143, x.portion(1, 0, 999));
        C.due(428, x.portion(1, 1, 999));
        C.due(428, x.portion(1, 2, 999));
    }

    private static void hour() {
        C.promise(48);
        Ditchright x = new Ditchright();
        C.due(-1, x.hour(0, true));
        C.due(-1, x.hour(23, false));
        C.dueThrow(Checks.ARGUMENT, () -> x.hour(24, true));
        C.dueThrow(Checks.ARGUMENT, () -> x.hour(-1, false));
        x.member(1, 1);
        x.member(1, 1);
        x.sell(3, 1);
        C.due(1, x.hour(3, true));
        C.due(0, x.hour(3, false));
        C.due(0, x.hour(11, true));
        C.due(1, x.hour(12, true));
        C.due(1, x.hour(23, false));
    }

    private static void hours() {
        C.promise(49);
        Ditchright x = new Ditchright();
        C.dueThrow(Checks.INDEX, () -> x.hours(0, true));
        x.member(1, 1);
        C.dueThrow(Checks.INDEX, () -> x.hours(1, false));
        C.dueThrow(Checks.INDEX, () -> x.hours(-1, false));
        C.due("0 1 2 3 4 5 18 19 20 21 22 23", x.hours(0, true));
        x.member(1, 9);
        // 24 / 10 is 2, and the one that is left.
        C.due("0 1 2", x.hours(0, false));
        x.sell(6, 0);
        x.sell(17, 0);
        x.sell(1, 1);
        C.due("0 2 6 17", x.hours(0, false));
        C.due("0 2", x.hours(0, true));
        C.due("1 3 4 5 18 19 20 21 22 23", x.hours(1, true));
        x.sell(0, 1);
        x.sell(2, 1);
        C.due("", x.hours(0, true));
    }

    private static void fault() {
        C.promise(50);
        String[] fine = {"", "g 0 0 1 0;", "r 11 22 33;", "f 9 99;", "f 00 01;g 1 22 3 44;r 1 2 3;f 1 2;"};
        for (String text : fine) {
            C.due(-1, written(text).fault());
        }
        String[] missing = {"g", "g ", "g 0", "g 01", "g 0 ", "g 0 0 1 0", "g 0 0 1 00", "r 1 2", "r 1 2 3", "f 1", "f 1 2",
            "f 1 2;r", "f 1 2;f 1 ", "r 1 2 "};
        for (String text : missing) {
            C.due(text.length(), written(text).fault());
        }
        // The last SIGN is the first one that can not stand there, whatever follows.
        String[] wrong = {" ", ";", "0", "gg", "g0", "g;", "g  ", "g g", "g ;", "g 000", "g 0;", "g 0g", "g 0 0 0;",
            "g 0 0 0 0 ", "g 0 0 0 00 ", "g 0 0 0 000", "r 0 0;", "r 0 0 0 ", "r 0 0 0f", "f 0;", "f 0 0 ", "f 0 0 0",
            "f 0 0r", "f 0 0;;", "f 0 0; ", "f 0 0;5", "f 0 0;f 0 0;f;", "f 00 00 ", "f 0 0;g5",
            "f 0 10;r;"};
        for (String text : wrong) {
            String shown = text.equals("f 0 0 0") ? "f 0 0 " : text;
            C.due(shown.length() - 1, written(text).fault());
            C.due(shown.length() - 1, written(text + "5; g").fault());
        }
    }

    private static Ditchright written(String text) {
        Ditchright x = new Ditchright();
        for (int k = 0; k < text.length(); k++) {
            x.type("0123456789 ;grf".indexOf(text.charAt(k)));
        }
        return x;
    }

    private static void slip() {
        C.promise(51);
        C.due("", new Ditchright().slip());
        C.due("g 0 12;;rf 987", written("g 0 12;;rf 987").slip());
    }

    private static void house() {
        C.promise(52);
        Ditchright x = new Ditchright();
        x.reach(-1, 1, 1, 1);
        x.reach(-1, 1, 1, 1);
        x.gate(0, 1, 1, 1);
        x.gate(0, 2, 1, 1);
        x.gate(0, 3, 1, 1);
        x.right(0, 1, 1);
        x.pond(0, 1);
        x.fish(0, 1);
        x.fish(0, 1);
        x.pond(0, 1);
        x.run(7);
        x.year(1, 1, 1, 1, 1, 1);
        x.member(1, 1);
        x.member(1, 1);
        x.well(0, 1);
        x.well(0, 1);
        x.well(0, 1);
        x.knock();
        x.knock();
        x.type(0);
        x.read();
        x.let(0, 0, 60);
        x.let(1, 0, 60);
        x.undo();
        int[] want = {2, 3, 5, 7, 1, 2, 7, 3, 2, 2, 2};
        for (int what = 0; what <= 10; what++) {
            C.due(want[what], x.house(what));
        }
        C.dueThrow(Checks.ARGUMENT, () -> x.house(11));
        C.dueThrow(Checks.ARGUMENT, () -> x.house(-1));
    }

    private static void isSound() {
        C.promise(53);
        Ditchright x = new Ditchright();
        C.due(true, x.isSound());
        x.reach(-1, 11, 3, 0);
        x.reach(0, 23, 4, 0);
        x.reach(0, 17, 1, 0);
        for (int k = 0; k < 8; k++) {
            x.gate(k % 3, 9 - k, 5 + k, k + 2);
            C.due(true, x.isSound());
        }
        x.right(0, 5, 15);
        x.right(1, 6, 15);
        x.right(2, 7, 15);
        x.pond(3, 12);
        x.fish(0, 9);
        x.right(4, 9, 15);
        x.right(5, 10, 15);
        x.pond(6, 9);
        x.fish(1, 4);
        x.right(7, 11, 15);
        x.member(3, 4);
        for (int k = 0; k < 12; k++) {
            C.due(true, x.isSound());
            x.born((k * 7) % 10, 20 - k);
            x.run(3);
        }
        C.due(8, x.house(6));
    }

    private static void digest() {
        C.promise(54);
        long empty = 6510;
        int[] house = new int[11 + 5];
        for (int v : house) {
            empty = empty * 31 + v;
        }
        for (int hour = 0; hour < 24; hour++) {
            empty = empty * 31 - 1;
        }
        empty = (empty * 31 - 1) * 31 * 31 + 1;
        C.due(empty, new Ditchright().digest());
        // The digest is asked first, with nothing known from other questions.
        Ditchright x = many();
        long digest = x.digest();
        C.due(digest, x.digest());
        C.due(summed(many()), digest);
        C.due(8, x.house(6));
        Ditchright y = more();
        digest = y.digest();
        C.due("5+ 4+", y.calls(0));
        C.due(summed(more()), digest);
    }

    private static Ditchright many() {
        Ditchright x = written("f 0 3;g");
        x.reach(-1, 20, 1, 1);
        x.reach(0, 9, 2, 1);
        x.gate(0, 1, 12, 3);
        x.gate(1, 1, 9, 3);
        x.right(0, 12, 15);
        x.pond(1, 17);
        x.right(0, 9, 3);
        x.fish(0, 6);
        x.born(0, 7);
        x.well(0, 1);
        x.pump(0, 4);
        x.run(6);
        x.let(0, 0, 3);
        x.year(3, 3, 3, 3, 3, 3);
        x.year(13, 3, 3, 3, 3, 3);
        x.member(3, 4);
        x.member(2, 5);
        x.sell(0, 1);
        x.knock();
        return x;
    }

    private static Ditchright more() {
        Ditchright x = many();
        x.run(1);
        x.right(1, 9, 15);
        x.spring(1, 60);
        x.spring(0, 1);
        x.gate(1, 0, 40, 0);
        x.right(2, 39, 15);
        x.born(1, 8);
        x.born(2, 9);
        return x;
    }

    private static long summed(Ditchright x) {
        long d = 6510;
        for (int what = 0; what <= 10; what++) {
            d = d * 31 + x.house(what);
        }
        for (int k = 0; k < x.house(0); k++) {
            for (int what = 0; what <= 10; what++) {
                d = d * 31 + x.ofReach(k, what);
            }
        }
        for (int k = 0; k < x.house(1); k++) {
            for (int what = 0; what <= 7; what++) {
                d = d * 31 + x.ofGate(k, what);
            }
        }
        for (int k = 0; k < x.house(2); k++) {
            for (int what = 0; what <= 10; what++) {
                d = d * 31 + x.ofRight(k, what);
            }
            d = (d * 31 + x.share(k, true)) * 31 + x.share(k, false);
            d = ((d * 31 + x.sure(k, 0)) * 31 + x.sure(k, 1)) * 31 + x.sure(k, 2);
            d = ((d * 31 + x.why(k).length()) * 31 + x.calls(k).length()) * 31 + x.surety(k).length();
            for (int ago = 1; ago <= 5; ago++) {
                d = d * 31 + x.had(k, ago);
            }
        }
        for (int what = 0; what <= 4; what++) {
            d = d * 31 + x.balance(what);
        }
        for (int k = 0; k < x.house(9); k++) {
            for (int what = 0; what <= 7; what++) {
                d = d * 31 + x.ofPond(k, what);
            }
        }
        for (int k = 0; k < x.house(10); k++) {
            for (int what = 0; what <= 3; what++) {
                d = d * 31 + x.ofWell(k, what);
            }
        }
        for (int k = 0; k < x.house(5); k++) {
            for (int how = 0; how <= 2; how++) {
                d = d * 31 + x.portion(how, k, 100);
            }
        }
        for (int hour = 0; hour < 24; hour++) {
            d = d * 31 + x.hour(hour, true);
        }
        return ((d * 31 + x.fault()) * 31 + x.slip().length()) * 31 + (x.isSound() ? 1 : 0);
    }
}
