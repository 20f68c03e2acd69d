/** Promises 1 to 19: the river, rights, days, years, measures. */
public final class RiverTest {
    private static final Checks C = new Checks();

    public static void main(String[] args) {
        anew();
        reach();
        lead();
        spring();
        gate();
        well();
        pump();
        right();
        fish();
        pond();
        wish();
        born();
        split();
        raise();
        move();
        moveRefused();
        run();
        gone();
        seasons();
        year();
        forget();
        measure();
        C.end();
    }

    private static void anew() {
        C.promise(1);
        Ditchright x = new Ditchright();
        for (int what = 0; what <= 10; what++) {
            C.due(0, x.house(what));
        }
        for (int what = 0; what <= 4; what++) {
            C.due(0, x.balance(what));
        }
        C.due("", x.slip());
        C.due(-1, x.hour(0, true));
        C.due(true, x.isSound());
        C.dueThrow(Checks.STATE, x::undo);
    }

    private static void reach() {
        C.promise(2);
        Ditchright x = new Ditchright();
        C.dueThrow(Checks.INDEX, () -> x.reach(0, 0, 0, 0));
        C.dueThrow(Checks.INDEX, () -> x.reach(-2, 99, 9, 9));
        C.dueThrow(Checks.ARGUMENT, () -> x.reach(-1, 61, 0, 0));
        C.dueThrow(Checks.ARGUMENT, () -> x.reach(-1, -1, 0, 0));
        C.dueThrow(Checks.ARGUMENT, () -> x.reach(-1, 0, 6, 0));
        C.dueThrow(Checks.ARGUMENT, () -> x.reach(-1, 0, -1, 0));
        C.dueThrow(Checks.ARGUMENT, () -> x.reach(-1, 0, 0, 4));
        C.dueThrow(Checks.ARGUMENT, () -> x.reach(-1, 0, 0, -1));
        C.due(0, x.house(0));
        C.due(0, x.reach(-1, 60, 5, 3));
        C.due(1, x.reach(0, 0, 0, 0));
        C.due(-1, x.ofReach(0, 0));
        C.due(60, x.ofReach(0, 1));
        C.due(5, x.ofReach(0, 2));
        C.due(3, x.ofReach(0, 3));
        C.due(0, x.ofReach(1, 0));
        C.due(0, x.ofReach(1, 1));
        C.dueThrow(Checks.INDEX, () -> x.reach(2, 1, 0, 0));
        for (int k = 2; k < 6; k++) {
            C.due(k, x.reach(1, 1, 1, 1));
        }
        C.dueThrow(Checks.STATE, () -> x.reach(0, 1, 1, 1));
        C.dueThrow(Checks.ARGUMENT, () -> x.reach(0, 1, 6, 1));
        C.dueThrow(Checks.INDEX, () -> x.reach(6, 1, 1, 1));
        C.due(6, x.house(0));
        C.due(6, x.house(6));
    }

    private static void lead() {
        C.promise(3);
        Ditchright x = new Ditchright();
        x.reach(-1, 10, 0, 1);
        x.reach(0, 10, 0, 1);
        x.reach(1, 10, 0, 1);
        C.dueThrow(Checks.INDEX, () -> x.lead(3, 0));
        C.dueThrow(Checks.INDEX, () -> x.lead(-1, 0));
        C.dueThrow(Checks.INDEX, () -> x.lead(0, 3));
        C.dueThrow(Checks.INDEX, () -> x.lead(0, -2));
        C.dueThrow(Checks.STATE, () -> x.lead(0, 0));
        C.dueThrow(Checks.STATE, () -> x.lead(0, 1));
        C.dueThrow(Checks.STATE, () -> x.lead(0, 2));
        C.dueThrow(Checks.STATE, () -> x.lead(1, 2));
        C.due(-1, x.ofReach(0, 0));
        C.due(30, x.ofReach(0, 5));
        C.due(1, x.lead(2, 0));
        C.due(0, x.ofReach(2, 0));
        C.due(30, x.ofReach(0, 5));
        C.due(10, x.ofReach(1, 5));
        C.due(0, x.lead(1, -1));
        C.due(20, x.ofReach(0, 5));
        C.due(-1, x.lead(0, 1));
        C.due(30, x.ofReach(1, 5));
        C.due(0, x.lead(2, 0));
    }

    private static void spring() {
        C.promise(4);
        Ditchright x = new Ditchright();
        x.reach(-1, 10, 0, 1);
        C.dueThrow(Checks.INDEX, () -> x.spring(1, 61));
        C.dueThrow(Checks.INDEX, () -> x.spring(-1, 5));
        C.dueThrow(Checks.ARGUMENT, () -> x.spring(0, 61));
        C.dueThrow(Checks.ARGUMENT, () -> x.spring(0, -1));
        C.due(10, x.spring(0, 60));
        C.due(60, x.spring(0, 0));
        C.due(0, x.spring(0, 7));
        C.due(7, x.ofReach(0, 8));
        C.due(4, x.house(6));
    }

    private static void gate() {
        C.promise(5);
        Ditchright x = new Ditchright();
        C.dueThrow(Checks.INDEX, () -> x.gate(0, 0, 1, 0));
        x.reach(-1, 10, 0, 0);
        x.reach(0, 10, 0, 0);
        C.dueThrow(Checks.INDEX, () -> x.gate(2, 99, 1, 0));
        C.dueThrow(Checks.ARGUMENT, () -> x.gate(0, 10, 1, 0));
        C.dueThrow(Checks.ARGUMENT, () -> x.gate(0, -1, 1, 0));
        C.dueThrow(Checks.ARGUMENT, () -> x.gate(0, 0, 0, 0));
        C.dueThrow(Checks.ARGUMENT, () -> x.gate(0, 0, 41, 0));
        C.dueThrow(Checks.ARGUMENT, () -> x.gate(0, 0, 1, -1));
        C.dueThrow(Checks.ARGUMENT, () -> x.gate(0, 0, 1, 11));
        C.due(0, x.gate(0, 9, 40, 10));
        C.due(1, x.gate(0, 0, 1, 0));
        C.dueThrow(Checks.STATE, () -> x.gate(0, 9, 1, 0));
        C.dueThrow(Checks.ARGUMENT, () -> x.gate(0, 9, 41, 0));
        C.due(2, x.gate(1, 9, 7, 3));
        C.due(1, x.ofGate(2, 0));
        C.due(9, x.ofGate(2, 1));
        C.due(7, x.ofGate(2, 2));
        C.due(3, x.ofGate(2, 3));
        for (int k = 3; k < 8; k++) {
            C.due(k, x.gate(1, k, 5, 5));
        }
        C.dueThrow(Checks.STATE, () -> x.gate(1, 0, 5, 5));
        C.due(8, x.house(1));
    }

    private static void well() {
        C.promise(6);
        Ditchright x = new Ditchright();
        C.dueThrow(Checks.INDEX, () -> x.well(0, 1));
        x.reach(-1, 10, 0, 0);
        C.dueThrow(Checks.INDEX, () -> x.well(-1, 9));
        C.dueThrow(Checks.ARGUMENT, () -> x.well(0, 0));
        C.dueThrow(Checks.ARGUMENT, () -> x.well(0, 6));
        C.due(0, x.well(0, 1));
        C.due(1, x.well(0, 5));
        C.due(2, x.well(0, 3));
        C.dueThrow(Checks.STATE, () -> x.well(0, 3));
        C.dueThrow(Checks.ARGUMENT, () -> x.well(0, 6));
        C.due(0, x.ofWell(1, 0));
        C.due(5, x.ofWell(1, 1));
        C.due(0, x.ofWell(1, 2));
        C.due(3, x.house(10));
    }

    private static void pump() {
        C.promise(7);
        Ditchright x = new Ditchright();
        x.reach(-1, 10, 0, 0);
        x.reach(-1, 20, 0, 0);
        C.dueThrow(Checks.INDEX, () -> x.pump(0, 99));
        x.well(0, 1);
        x.well(0, 3);
        C.dueThrow(Checks.ARGUMENT, () -> x.pump(0, 10));
        C.dueThrow(Checks.ARGUMENT, () -> x.pump(0, -1));
        C.due(0, x.pump(0, 9));
        C.due(0, x.pump(1, 4));
        C.due(10, x.ofReach(0, 4));
        x.run(1);
        C.due(1, x.ofReach(0, 4));
        C.due(9, x.pump(0, 8));
        C.due(1, x.ofReach(0, 4));
        x.run(1);
        C.due(2, x.ofReach(0, 4));
        x.run(1);
        // 8 and 4 are more than 10: never below 0.
        C.due(0, x.ofReach(0, 4));
        C.due(4, x.ofWell(1, 3));
        C.due(20, x.ofReach(1, 4));
        C.due(8, x.pump(0, 0));
        x.run(1);
        C.due(6, x.ofReach(0, 4));
        C.due(10, x.ofReach(0, 1));
    }

    private static void right() {
        C.promise(8);
        Ditchright x = new Ditchright();
        C.dueThrow(Checks.INDEX, () -> x.right(0, 1, 1));
        x.reach(-1, 10, 0, 0);
        x.gate(0, 0, 12, 0);
        C.dueThrow(Checks.INDEX, () -> x.right(1, 99, 99));
        C.dueThrow(Checks.ARGUMENT, () -> x.right(0, 0, 1));
        C.dueThrow(Checks.ARGUMENT, () -> x.right(0, 13, 1));
        C.dueThrow(Checks.ARGUMENT, () -> x.right(0, 1, 0));
        C.dueThrow(Checks.ARGUMENT, () -> x.right(0, 1, 16));
        C.due(0, x.right(0, 12, 15));
        x.run(3);
        C.due(1, x.right(0, 1, 8));
        int[] want = {0, 0, 3, 1, 8, 1, 0, 0, 0, 0, -1};
        for (int what = 0; what <= 10; what++) {
            C.due(want[what], x.ofRight(1, what));
        }
        for (int k = 2; k < 10; k++) {
            C.due(k, x.right(0, 1, 1));
        }
        C.dueThrow(Checks.STATE, () -> x.right(0, 1, 1));
        C.dueThrow(Checks.ARGUMENT, () -> x.right(0, 1, 0));
        C.due(10, x.house(2));
    }

    private static void fish() {
        C.promise(9);
        Ditchright x = new Ditchright();
        C.dueThrow(Checks.INDEX, () -> x.fish(0, 99));
        x.reach(-1, 10, 0, 0);
        x.gate(0, 0, 12, 0);
        C.dueThrow(Checks.ARGUMENT, () -> x.fish(0, 0));
        C.dueThrow(Checks.ARGUMENT, () -> x.fish(0, 41));
        C.due(0, x.fish(0, 40));
        C.due(1, x.right(0, 12, 15));
        // The older FISH leaves nothing for the USE; by PLACE the FISH have nothing.
        C.due(10, x.share(0, true));
        C.due(0, x.share(1, true));
        C.due(0, x.share(0, false));
        C.due(10, x.share(1, false));
        int[] want = {1, 0, 0, 40, 15, 40, 40, 0, 0, 0, -1};
        for (int what = 0; what <= 10; what++) {
            C.due(want[what], x.ofRight(0, what));
        }
        for (int k = 2; k < 10; k++) {
            C.due(k, x.fish(0, 1));
        }
        C.dueThrow(Checks.STATE, () -> x.fish(0, 1));
        C.dueThrow(Checks.ARGUMENT, () -> x.fish(0, 41));
    }

    private static void pond() {
        C.promise(10);
        Ditchright x = new Ditchright();
        C.dueThrow(Checks.INDEX, () -> x.pond(0, 99));
        x.reach(-1, 10, 0, 0);
        x.gate(0, 0, 12, 0);
        x.gate(0, 1, 12, 0);
        C.dueThrow(Checks.ARGUMENT, () -> x.pond(0, 0));
        C.dueThrow(Checks.ARGUMENT, () -> x.pond(0, 61));
        x.right(0, 3, 15);
        x.run(2);
        C.due(0, x.pond(1, 5));
        int[] want = {2, 1, 2, 12, 15, 12, 5, 0, 0, 0, 0};
        for (int what = 0; what <= 10; what++) {
            C.due(want[what], x.ofRight(1, what));
        }
        C.due(1, x.ofPond(0, 0));
        C.due(5, x.ofPond(0, 1));
        C.due(1, x.pond(1, 60));
        C.due(2, x.pond(0, 1));
        C.dueThrow(Checks.STATE, () -> x.pond(0, 1));
        C.dueThrow(Checks.ARGUMENT, () -> x.pond(0, 61));
        C.due(3, x.house(9));
        Ditchright y = new Ditchright();
        y.reach(-1, 10, 0, 0);
        y.gate(0, 0, 12, 0);
        for (int k = 0; k < 10; k++) {
            y.right(0, 1, 1);
        }
        C.dueThrow(Checks.STATE, () -> y.pond(0, 1));
        C.due(0, y.house(9));
    }

    private static void wish() {
        C.promise(11);
        Ditchright x = new Ditchright();
        x.reach(-1, 30, 0, 0);
        x.gate(0, 0, 12, 0);
        x.right(0, 9, 15);
        x.fish(0, 5);
        x.pond(0, 20);
        C.dueThrow(Checks.INDEX, () -> x.wish(3, 0));
        C.dueThrow(Checks.INDEX, () -> x.wish(-1, -1));
        C.dueThrow(Checks.ARGUMENT, () -> x.wish(0, 10));
        C.dueThrow(Checks.ARGUMENT, () -> x.wish(0, -1));
        C.due(9, x.wish(0, 0));
        C.due(0, x.ofRight(0, 6));
        C.due(0, x.wish(0, 9));
        C.due(5, x.wish(1, 4));
        C.due(4, x.share(1, true));
        C.due(12, x.wish(2, 2));
        C.due(2, x.share(2, true));
        C.due(9, x.ofRight(0, 3));
    }

    private static void born() {
        C.promise(12);
        Ditchright x = new Ditchright();
        x.reach(-1, 10, 0, 0);
        x.gate(0, 0, 12, 0);
        x.right(0, 9, 15);
        x.right(0, 9, 15);
        C.dueThrow(Checks.INDEX, () -> x.born(2, 1000));
        C.dueThrow(Checks.ARGUMENT, () -> x.born(0, 1000));
        C.dueThrow(Checks.ARGUMENT, () -> x.born(0, -1));
        C.due(9, x.share(0, true));
        C.due(1, x.share(1, true));
        C.due(0, x.born(0, 999));
        C.due(1, x.share(0, true));
        C.due(9, x.share(1, true));
        C.due(1, x.byAge(0));
        C.due(999, x.born(0, 0));
        C.due(0, x.byAge(0));
    }

    private static void split() {
        C.promise(13);
        Ditchright x = new Ditchright();
        x.reach(-1, 30, 0, 0);
        x.gate(0, 0, 12, 0);
        x.right(0, 9, 5);
        x.fish(0, 5);
        x.pond(0, 20);
        x.run(1);
        x.born(0, 7);
        x.wish(0, 3);
        x.measure(0, 1, 11);
        C.dueThrow(Checks.INDEX, () -> x.split(3, 0));
        C.dueThrow(Checks.ARGUMENT, () -> x.split(1, 1));
        C.dueThrow(Checks.ARGUMENT, () -> x.split(2, 1));
        C.dueThrow(Checks.ARGUMENT, () -> x.split(0, 0));
        C.dueThrow(Checks.ARGUMENT, () -> x.split(0, 9));
        C.due(3, x.split(0, 8));
        int[] old = {0, 0, 7, 1, 5, 1, 0, 2, 0, 0, -1};
        int[] made = {0, 0, 7, 8, 5, 8, 8, 0, 0, 0, -1};
        for (int what = 0; what <= 10; what++) {
            C.due(old[what], x.ofRight(0, what));
            C.due(made[what], x.ofRight(3, what));
        }
        C.due(-1, x.had(3, 1));
        C.dueThrow(Checks.ARGUMENT, () -> x.split(0, 1));
        for (int k = 4; k < 10; k++) {
            C.due(k, x.split(3, 1));
        }
        C.dueThrow(Checks.STATE, () -> x.split(3, 1));
        C.dueThrow(Checks.ARGUMENT, () -> x.split(3, 2));
    }

    private static void raise() {
        C.promise(14);
        Ditchright x = new Ditchright();
        x.reach(-1, 30, 0, 0);
        x.gate(0, 0, 12, 0);
        x.right(0, 9, 5);
        x.fish(0, 5);
        x.run(2);
        x.measure(0, 1, 11);
        C.dueThrow(Checks.INDEX, () -> x.raise(2, 0));
        C.dueThrow(Checks.ARGUMENT, () -> x.raise(1, 1));
        C.dueThrow(Checks.ARGUMENT, () -> x.raise(0, 0));
        C.dueThrow(Checks.ARGUMENT, () -> x.raise(0, 13));
        C.due(2, x.raise(0, 12));
        int[] old = {0, 0, 0, 9, 5, 9, 7, 2, 0, 0, -1};
        int[] made = {0, 0, 2, 12, 5, 12, 12, 0, 0, 0, -1};
        for (int what = 0; what <= 10; what++) {
            C.due(old[what], x.ofRight(0, what));
            C.due(made[what], x.ofRight(2, what));
        }
        for (int k = 3; k < 10; k++) {
            C.due(k, x.raise(0, 1));
        }
        C.dueThrow(Checks.STATE, () -> x.raise(0, 1));
        C.dueThrow(Checks.ARGUMENT, () -> x.raise(0, 0));
    }

    /** Three REACHES: 1 and 2 flow into 0; GATES 0 (REACH 0), 1 and 3 (REACH 1), 2 (REACH 2). */
    private static Ditchright fork() {
        Ditchright x = new Ditchright();
        x.reach(-1, 10, 0, 0);
        x.reach(0, 20, 0, 0);
        x.reach(0, 20, 0, 0);
        x.gate(0, 5, 30, 0);
        x.gate(1, 5, 10, 0);
        x.gate(2, 5, 10, 0);
        x.gate(1, 7, 3, 0);
        return x;
    }

    private static void move() {
        C.promise(15);
        Ditchright x = fork();
        x.right(0, 20, 7);
        x.fish(2, 1);
        x.run(1);
        C.dueThrow(Checks.INDEX, () -> x.move(2, 1, 1));
        C.dueThrow(Checks.INDEX, () -> x.move(0, 4, 1));
        C.dueThrow(Checks.INDEX, () -> x.move(0, -1, 1));
        C.dueThrow(Checks.ARGUMENT, () -> x.move(1, 1, 1));
        C.dueThrow(Checks.ARGUMENT, () -> x.move(0, 0, 1));
        C.dueThrow(Checks.ARGUMENT, () -> x.move(0, 1, 0));
        C.dueThrow(Checks.ARGUMENT, () -> x.move(0, 1, 11));
        x.wish(0, 4);
        x.measure(0, 1, 22);
        C.due(2, x.move(0, 1, 10));
        int[] old = {0, 0, 0, 10, 7, 10, 8, 2, 0, 0, -1};
        int[] made = {0, 1, 0, 10, 7, 10, 10, 0, 0, 0, -1};
        for (int what = 0; what <= 10; what++) {
            C.due(old[what], x.ofRight(0, what));
            C.due(made[what], x.ofRight(2, what));
        }
        C.due(-1, x.had(2, 1));
        // GATES of the REACHES 1 and 2 are APART; those of one REACH are not.
        C.dueThrow(Checks.STATE, () -> x.move(2, 2, 1));
        C.due(3, x.move(2, 3, 1));
        x.wish(0, 6);
        C.due(0, x.move(0, 2, 10));
        int[] moved = {0, 2, 0, 10, 7, 6, 4, 2, 0, 0, -1};
        for (int what = 0; what <= 10; what++) {
            C.due(moved[what], x.ofRight(0, what));
        }
        C.due(22, x.had(0, 1));
        for (int k = 4; k < 10; k++) {
            x.fish(0, 1);
        }
        C.dueThrow(Checks.STATE, () -> x.move(0, 0, 9));
        C.due(0, x.move(0, 0, 10));
    }

    /** A USE of 4 flows in from the REACH above, by which a younger FISH has just its REST of 4. */
    private static Ditchright besideFish() {
        Ditchright x = new Ditchright();
        x.reach(-1, 0, 0, 0);
        x.reach(0, 10, 0, 0);
        x.gate(0, 5, 10, 0);
        x.gate(1, 5, 10, 0);
        x.gate(1, 6, 10, 0);
        x.right(1, 6, 15);
        x.right(0, 4, 15);
        x.fish(1, 4);
        x.born(2, 5);
        return x;
    }

    private static void moveRefused() {
        Ditchright x = besideFish();
        C.due(4, x.share(1, true));
        C.due(4, x.share(2, true));
        C.due(8, x.house(6));
        C.due(-9, x.move(1, 2, 4));
        C.due(0, x.ofRight(1, 1));
        C.due(1, x.house(7));
        C.due(-9, x.move(1, 2, 1));
        C.due(3, x.house(2));
        C.due(2, x.house(7));
        C.dueThrow(Checks.ARGUMENT, () -> x.move(1, 2, 5));
        C.due(2, x.house(7));
        // Nothing else has changed: another one, to which -7 was told twice, is the same.
        Ditchright y = besideFish();
        y.type(12);
        y.read();
        y.read();
        y.wipe();
        C.due(y.digest(), x.digest());
        // With the springs of today none is HARMED, with those of a YEAR one is.
        x.spring(1, 40);
        x.year(0, 20, 0, 0, 0, 0);
        C.due(0, x.harms(1, 2, 4));
        x.year(0, 2, 0, 0, 0, 0);
        C.due(1, x.harms(1, 2, 4));
        C.due(-9, x.move(1, 2, 4));
        x.forget();
        C.due(1, x.move(1, 2, 4));
        C.due(2, x.ofRight(1, 1));
        C.due(3, x.house(7));
    }

    private static void run() {
        C.promise(16);
        Ditchright x = new Ditchright();
        C.dueThrow(Checks.ARGUMENT, () -> x.run(0));
        C.dueThrow(Checks.ARGUMENT, () -> x.run(21));
        C.dueThrow(Checks.ARGUMENT, () -> x.run(-1));
        C.due(0, x.run(20));
        C.due(20, x.house(3));
        x.reach(-1, 20, 0, 0);
        x.gate(0, 0, 10, 0);
        x.gate(0, 1, 10, 5);
        x.fish(0, 3);
        x.right(1, 5, 15);
        x.pond(0, 21);
        C.due(15, x.run(1));
        C.due(10, x.ofRight(2, 3));
        // 10 came, a tenth of it went.
        C.due(9, x.ofPond(0, 2));
        C.due(10, x.ofPond(0, 3));
        C.due(3, x.had(0, 1));
        C.due(5, x.had(1, 1));
        C.due(10, x.had(2, 1));
        C.due(15, x.run(1));
        C.due(18, x.ofPond(0, 2));
        C.due(8, x.run(1));
        C.due(23, x.ofPond(0, 3));
        C.due(19, x.ofPond(0, 2));
        // 2 * ROOM less FILLED: 19 drops more until all FILLED are 0.
        x.let(0, 0, 19);
        C.due(19 + 5 * 16, x.run(16));
        C.due(39, x.house(3));
        C.due(42, x.ofPond(0, 3));
        C.due(0, x.ofRight(2, 6));
        C.due(5, x.run(1));
        C.due(0, x.ofPond(0, 3));
        C.due(true, x.ofRight(2, 6) > 0);
    }

    private static void gone() {
        Ditchright x = new Ditchright();
        x.reach(-1, 0, 0, 0);
        x.gate(0, 0, 10, 0);
        x.gate(0, 1, 10, 0);
        x.right(0, 5, 15);
        x.fish(0, 5);
        x.pond(0, 5);
        x.run(20);
        x.run(19);
        C.due(39, x.ofRight(0, 8));
        C.due(0, x.ofRight(0, 9));
        C.due(5, x.ofRight(0, 6));
        C.due(0, x.measure(0, 1, 0));
        C.due(3, x.measure(0, 5, 3));
        x.run(1);
        C.due(40, x.ofRight(0, 8));
        C.due(1, x.ofRight(0, 9));
        C.due(0, x.ofRight(0, 6));
        C.due(0, x.ofRight(0, 7));
        C.due(40, x.ofRight(1, 8));
        C.due(0, x.ofRight(1, 9));
        C.due(0, x.ofRight(2, 9));
        x.spring(0, 60);
        C.due(0, x.share(0, true));
        C.due(5, x.share(1, true));
        C.due(5, x.share(2, true));
        C.promise(13);
        C.dueThrow(Checks.ARGUMENT, () -> x.split(0, 1));
        C.promise(14);
        C.dueThrow(Checks.ARGUMENT, () -> x.raise(0, 1));
        C.promise(15);
        C.dueThrow(Checks.ARGUMENT, () -> x.move(0, 1, 1));
        C.promise(36);
        C.dueThrow(Checks.ARGUMENT, () -> x.harms(0, 1, 1));
        C.promise(37);
        C.dueThrow(Checks.ARGUMENT, () -> x.greatest(0, 1));
        C.promise(16);
        x.measure(0, 1, 8);
        C.due(8, x.ofRight(0, 7));
        x.run(1);
        C.due(41, x.ofRight(0, 8));
        C.due(8, x.ofRight(0, 7));
        C.due(1, x.ofRight(0, 9));
        C.due(0, x.ofRight(1, 8));
        x.undo();
        x.undo();
        x.undo();
        x.undo();
        C.due(0, x.ofRight(0, 9));
        C.due(39, x.ofRight(0, 8));
    }

    private static void seasons() {
        Ditchright x = new Ditchright();
        x.reach(-1, 20, 0, 0);
        x.gate(0, 0, 10, 0);
        x.right(0, 5, 10);
        C.due(0, x.ofRight(0, 6));
        x.run(9);
        C.due(0, x.run(1));
        C.due(10, x.ofRight(0, 8));
        x.wish(0, 1);
        C.due(1, x.run(1));
        C.due(0, x.ofRight(0, 8));
        x.undo();
        x.wish(0, 5);
        C.due(5, x.run(1));
        C.due(0, x.ofRight(0, 8));
        C.due(10, x.measure(0, 1, 15));
        x.run(9);
        // In season DEBT fell by WISH on two days, and then no more was owed.
        C.due(0, x.ofRight(0, 7));
        C.due(7, x.measure(0, 5, 12));
        C.due(0, x.run(10));
        C.due(7, x.ofRight(0, 7));
        C.due(0, x.ofRight(0, 6));
        C.due(3, x.run(2));
        C.due(0, x.ofRight(0, 7));
    }

    private static void year() {
        C.promise(17);
        Ditchright x = new Ditchright();
        x.reach(-1, 9, 0, 0);
        x.gate(0, 0, 20, 0);
        x.right(0, 20, 15);
        C.dueThrow(Checks.ARGUMENT, () -> x.year(21, 0, 0, 0, 0, 0));
        C.dueThrow(Checks.ARGUMENT, () -> x.year(0, 21, 0, 0, 0, 0));
        C.dueThrow(Checks.ARGUMENT, () -> x.year(0, 0, 21, 0, 0, 0));
        C.dueThrow(Checks.ARGUMENT, () -> x.year(0, 0, 0, 21, 0, 0));
        C.dueThrow(Checks.ARGUMENT, () -> x.year(0, 0, 0, 0, 21, 0));
        C.dueThrow(Checks.ARGUMENT, () -> x.year(0, 0, 0, 0, 0, 21));
        C.dueThrow(Checks.ARGUMENT, () -> x.year(0, 0, 0, 0, 0, -1));
        C.due(0, x.year(20, 20, 20, 20, 20, 20));
        C.due(18, x.sure(0, 1));
        C.due(1, x.year(5, 0, 0, 0, 0, 0));
        C.due(4, x.sure(0, 1));
        C.due(2, x.year(0, 0, 0, 0, 0, 0));
        C.due(3, x.year(1, 2, 3, 4, 5, 6));
        C.dueThrow(Checks.STATE, () -> x.year(0, 0, 0, 0, 0, 0));
        C.dueThrow(Checks.ARGUMENT, () -> x.year(0, 0, 0, 0, 0, 21));
        C.due(4, x.house(4));
        // Each REACH has its own tenths; wells and what is LET do not count in a YEAR.
        Ditchright y = new Ditchright();
        for (int k = 0; k < 6; k++) {
            y.reach(-1, 10, 0, 0);
            y.gate(k, 0, 20, 0);
            y.right(k, 20, 15);
        }
        y.well(0, 1);
        y.pump(0, 9);
        y.run(1);
        y.year(1, 2, 3, 4, 5, 6);
        for (int k = 0; k < 6; k++) {
            C.due(k + 1, y.sure(k, 1));
        }
        C.due(1, y.share(0, true));
    }

    private static void forget() {
        C.promise(18);
        Ditchright x = new Ditchright();
        C.due(0, x.forget());
        C.due(1, x.house(6));
        x.year(1, 1, 1, 1, 1, 1);
        x.year(2, 2, 2, 2, 2, 2);
        C.due(2, x.forget());
        C.due(0, x.house(4));
        C.due(0, x.year(3, 3, 3, 3, 3, 3));
        x.undo();
        x.undo();
        C.due(2, x.house(4));
    }

    private static void measure() {
        C.promise(19);
        Ditchright x = new Ditchright();
        x.reach(-1, 20, 0, 0);
        x.gate(0, 0, 10, 0);
        x.right(0, 5, 15);
        x.fish(0, 5);
        C.dueThrow(Checks.INDEX, () -> x.measure(2, 9, 99));
        C.dueThrow(Checks.ARGUMENT, () -> x.measure(1, 1, 1));
        C.dueThrow(Checks.ARGUMENT, () -> x.measure(0, 0, 1));
        C.dueThrow(Checks.ARGUMENT, () -> x.measure(0, 6, 1));
        C.dueThrow(Checks.ARGUMENT, () -> x.measure(0, 1, 41));
        C.dueThrow(Checks.ARGUMENT, () -> x.measure(0, 1, -1));
        C.dueThrow(Checks.STATE, () -> x.measure(0, 1, 1));
        x.run(1);
        C.dueThrow(Checks.STATE, () -> x.measure(0, 2, 1));
        C.due(3, x.measure(0, 1, 8));
        C.due(8, x.had(0, 1));
        C.due(2, x.ofRight(0, 6));
        C.due(1, x.measure(0, 1, 6));
        C.due(-5, x.measure(0, 1, 0));
        C.due(0, x.ofRight(0, 8));
        // A DEBT below 0 adds nothing to WANT, and stays.
        C.due(5, x.ofRight(0, 6));
        C.due(5, x.run(1));
        C.due(-5, x.ofRight(0, 7));
        C.due(0, x.had(0, 2));
        C.due(35, x.measure(0, 2, 40));
        C.due(0, x.ofRight(0, 6));
        x.run(1);
        C.due(30, x.ofRight(0, 7));
        C.due(1, x.ofRight(0, 8));
        int made = x.right(0, 1, 15);
        C.dueThrow(Checks.STATE, () -> x.measure(made, 1, 1));
        x.run(5);
        C.dueThrow(Checks.ARGUMENT, () -> x.measure(0, 8, 1));
        C.due(0, x.measure(made, 5, 1));
    }
}
