/** Rivers with which the tests of edges begin; each one is built anew whenever it is asked for. */
final class Rivers {
    static final Edges.Build EMPTY = Ditchright::new;
    /** 3 REACHES, 4 GATES, 5 RIGHTS (USE, FISH, STORE, USE, STORE), 2 PONDS, 2 WELLS, 2 YEARS, 2 MEMBERS, DAY 3. */
    static final Edges.Build SOME = Rivers::some;
    /** 6 REACHES, 8 GATES, 10 RIGHTS, 3 PONDS, 3 WELLS, 4 YEARS, 5 MEMBERS, 60 SIGNS. */
    static final Edges.Build FULL = Rivers::full;
    /** One REACH and one GATE with a BOUND of 12, nothing else. */
    static final Edges.Build GATE = Rivers::gate;
    /** 10 RIGHTS, all USES of 2 drops at one of two GATES, the last one at the other; no PONDS. */
    static final Edges.Build CROWD = Rivers::crowd;

    /** RIGHT 0 is a USE of 5 that is GONE just now, RIGHT 1 a USE of 5 that had all; two GATES; DAY 40. */
    static final Edges.Build GONE = Rivers::gone;
    /** REACHES 1 and 2 flow into 0, 3 into 1; GATE k is at REACH k; a USE of 6 at each one, of 4 at
     *  GATE 3 with a BOUND of 4; a FISH of 2 at REACH 0. */
    static final Edges.Build FORK = Rivers::fork;

    static void write(Ditchright x, String text) {
        for (int k = 0; k < text.length(); k++) {
            x.type("0123456789 ;grf".indexOf(text.charAt(k)));
        }
    }

    private static Ditchright gate() {
        Ditchright x = new Ditchright();
        x.reach(-1, 30, 0, 0);
        x.gate(0, 5, 12, 0);
        return x;
    }

    private static Ditchright crowd() {
        Ditchright x = gate();
        x.gate(0, 6, 12, 0);
        for (int k = 0; k < 10; k++) {
            x.right(k / 9, 2, 15);
        }
        return x;
    }

    private static Ditchright gone() {
        Ditchright x = gate();
        x.gate(0, 6, 12, 0);
        x.right(0, 5, 15);
        x.right(0, 5, 15);
        x.wish(0, 0);
        x.run(20);
        x.run(20);
        x.wish(0, 5);
        return x;
    }

    private static Ditchright fork() {
        Ditchright x = new Ditchright();
        x.reach(-1, 20, 0, 0);
        x.reach(0, 20, 0, 0);
        x.reach(0, 20, 0, 0);
        x.reach(1, 20, 0, 0);
        for (int k = 0; k < 4; k++) {
            x.gate(k, 5, k == 3 ? 4 : 20, 0);
            x.right(k, k == 3 ? 4 : 6, 15);
        }
        x.fish(0, 2);
        return x;
    }

    private static Ditchright some() {
        Ditchright x = new Ditchright();
        x.reach(-1, 20, 1, 1);
        x.reach(0, 30, 2, 2);
        x.reach(0, 10, 0, 0);
        x.gate(0, 3, 20, 4);
        x.gate(1, 3, 12, 10);
        x.gate(2, 9, 40, 0);
        x.gate(1, 0, 5, 5);
        x.right(0, 15, 15);
        x.fish(1, 9);
        x.pond(1, 30);
        x.right(2, 8, 7);
        x.pond(0, 20);
        x.well(1, 2);
        x.pump(0, 3);
        x.well(2, 5);
        x.year(10, 5, 7, 0, 0, 0);
        x.year(0, 10, 20, 0, 0, 0);
        x.member(3, 2);
        x.member(4, 5);
        x.run(3);
        x.measure(0, 1, 17);
        x.wish(3, 6);
        x.sell(4, 1);
        x.let(0, 0, 2);
        write(x, "f 2 3;");
        return x;
    }

    private static Ditchright full() {
        Ditchright x = new Ditchright();
        int[][] reaches = {{-1, 30, 1, 2}, {0, 20, 0, 1}, {0, 15, 2, 0}, {1, 25, 1, 3}, {-1, 12, 0, 1}, {2, 9, 3, 2}};
        for (int[] r : reaches) {
            x.reach(r[0], r[1], r[2], r[3]);
        }
        for (int k = 0; k < 8; k++) {
            x.gate(k % 6, 9 - k, 5 + 5 * k, k);
        }
        x.right(7, 12, 15);
        x.right(1, 10, 15);
        x.pond(2, 40);
        x.fish(0, 7);
        x.pond(3, 25);
        x.right(4, 9, 6);
        x.right(5, 4, 15);
        x.pond(6, 60);
        x.fish(4, 3);
        x.right(0, 5, 15);
        for (int k = 0; k < 3; k++) {
            x.well(k, 2 * k + 1);
            x.pump(k, 2 + 3 * k);
        }
        for (int k = 0; k < 4; k++) {
            x.year(20 - 5 * k, 5 * k, 10, 7, k, 20);
        }
        for (int k = 0; k < 5; k++) {
            x.member(k + 1, 9 - k);
        }
        x.run(11);
        x.measure(0, 2, 14);
        x.wish(1, 7);
        x.born(9, 3);
        x.sell(3, 4);
        x.swap(0, 23);
        x.let(0, 0, 1);
        x.carry(0, 0, 1);
        x.feast(2);
        for (int k = 0; k < 60; k++) {
            x.type(k % 15);
        }
        return x;
    }
}
