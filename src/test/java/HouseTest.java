/** Promises 20 to 31: ponds, the ditch house, steps back, texts. */
public final class HouseTest {
    private static final Checks C = new Checks();

    public static void main(String[] args) {
        let();
        carry();
        member();
        swap();
        sell();
        feast();
        round();
        undo();
        undoIsWhole();
        eachIsAStep();
        type();
        wipe();
        read();
        readStops();
        knock();
        C.end();
    }

    /** Two PONDS on two REACHES, 18 and 9 drops in them after two days. */
    private static Ditchright ponds() {
        Ditchright x = new Ditchright();
        x.reach(-1, 5, 0, 0);
        x.reach(0, 30, 0, 0);
        x.gate(1, 0, 10, 0);
        x.gate(0, 0, 5, 0);
        x.pond(0, 30);
        x.pond(1, 20);
        x.run(2);
        return x;
    }

    private static void let() {
        C.promise(20);
        Ditchright x = ponds();
        C.due(18, x.ofPond(0, 2));
        C.due(9, x.ofPond(1, 2));
        C.dueThrow(Checks.INDEX, () -> x.let(2, 0, 1));
        C.dueThrow(Checks.INDEX, () -> x.let(0, 2, 0));
        C.dueThrow(Checks.INDEX, () -> x.let(-1, 0, 1));
        C.dueThrow(Checks.ARGUMENT, () -> x.let(0, 0, 0));
        C.dueThrow(Checks.ARGUMENT, () -> x.let(0, 0, 61));
        int steps = x.house(6);
        C.due(-9, x.let(1, 0, 1));
        C.due(-9, x.let(0, 0, 19));
        C.due(2, x.house(7));
        C.due(steps, x.house(6));
        C.due(12, x.let(0, 0, 6));
        C.due(0, x.let(0, 0, 12));
        C.due(18, x.ofPond(0, 7));
        C.due(2, x.let(1, 1, 7));
        C.due(30, x.ofReach(1, 4));
        x.run(1);
        C.due(48, x.ofReach(1, 4));
        C.due(12, x.ofReach(0, 4));
        C.due(0, x.ofPond(0, 7));
        x.run(1);
        C.due(30, x.ofReach(1, 4));
        C.due(5, x.ofReach(0, 4));
    }

    private static void carry() {
        C.promise(21);
        Ditchright x = ponds();
        C.dueThrow(Checks.INDEX, () -> x.carry(2, 0, 0));
        C.dueThrow(Checks.INDEX, () -> x.carry(0, 2, 1));
        C.dueThrow(Checks.INDEX, () -> x.carry(0, 0, 2));
        C.dueThrow(Checks.INDEX, () -> x.carry(0, -1, -1));
        C.dueThrow(Checks.ARGUMENT, () -> x.carry(0, 1, 1));
        // There is room for 11, though the ACCOUNT has 18.
        C.due(11, x.carry(0, 0, 1));
        C.due(7, x.ofPond(0, 4));
        C.due(11, x.ofPond(1, 4));
        C.due(9, x.ofPond(1, 5));
        C.due(20, x.ofPond(1, 2));
        C.due(0, x.carry(0, 0, 1));
        C.due(0, x.carry(1, 0, 1));
        C.due(9, x.carry(1, 1, 0));
        C.due(9, x.ofPond(0, 5));
        C.due(0, x.ofPond(1, 5));
        C.due(10, x.ofPond(1, 3));
        C.due(0, x.house(7));
        // All ACCOUNTS SEEP, each for itself.
        x.wish(0, 0);
        x.wish(1, 0);
        x.run(1);
        C.due(7, x.ofPond(0, 4));
        C.due(9, x.ofPond(0, 5));
        C.due(10, x.ofPond(1, 4));
        x.run(1);
        C.due(9, x.ofPond(1, 4));
        C.due(0, x.let(1, 0, 9));
    }

    private static String all(Ditchright x, int members, boolean isNight) {
        StringBuilder text = new StringBuilder();
        for (int k = 0; k < members; k++) {
            text.append(x.hours(k, isNight)).append('|');
        }
        return text.toString();
    }

    private static void member() {
        C.promise(22);
        Ditchright x = new Ditchright();
        C.dueThrow(Checks.ARGUMENT, () -> x.member(0, 1));
        C.dueThrow(Checks.ARGUMENT, () -> x.member(10, 1));
        C.dueThrow(Checks.ARGUMENT, () -> x.member(1, 0));
        C.dueThrow(Checks.ARGUMENT, () -> x.member(1, 10));
        C.due(0, x.member(1, 9));
        C.due("0 1 2 3 4 5 6 7 8 9 10 11 12 13 14 15 16 17 18 19 20 21 22 23|", all(x, 1, false));
        x.sell(4, 0);
        C.due(1, x.member(9, 1));
        // 24 * 9 / 10 is 21, 24 / 10 is 2: the one that is left is the first one's.
        C.due("0 1 2 3 4 5 6 7 8 9 10 11 12 13 14 15 16 17 18 19 20 21|22 23|", all(x, 2, false));
        C.due(0, x.round());
        C.due(2, x.member(5, 7));
        // 12, 1, 9 and two that are left.
        C.due("0 1 2 3 4 5 6 7 8 9 10 11 12|13 14|15 16 17 18 19 20 21 22 23|", all(x, 3, false));
        x.swap(0, 23);
        x.sell(7, 1);
        x.feast(3);
        C.due(3, x.member(1, 1));
        C.due("0 1 2 3 4 5 6 7 8 9 10 11|12 13|14 15 16 17 18 19 20 21 22|23|".length(), all(x, 4, false).length());
        C.due(0, x.hour(0, true));
        C.due(0, x.hour(7, true));
        C.due(3, x.hour(23, true));
        C.due(4, x.member(1, 1));
        C.dueThrow(Checks.STATE, () -> x.member(1, 1));
        C.dueThrow(Checks.ARGUMENT, () -> x.member(0, 1));
        C.due(5, x.house(5));
    }

    private static void swap() {
        C.promise(23);
        Ditchright x = new Ditchright();
        C.dueThrow(Checks.STATE, () -> x.swap(0, 0));
        C.dueThrow(Checks.ARGUMENT, () -> x.swap(24, 0));
        C.dueThrow(Checks.ARGUMENT, () -> x.swap(0, -1));
        x.member(1, 1);
        C.due(0, x.swap(0, 23));
        x.undo();
        x.member(1, 1);
        C.dueThrow(Checks.ARGUMENT, () -> x.swap(-1, 0));
        C.dueThrow(Checks.ARGUMENT, () -> x.swap(0, 24));
        C.due(0, x.swap(0, 11));
        C.due(0, x.swap(5, 5));
        x.sell(0, 0);
        C.due(1, x.swap(0, 23));
        C.due(1, x.hour(0, false));
        C.due(0, x.hour(0, true));
        C.due(0, x.hour(23, true));
        x.sell(1, 1);
        // For good these are alike, though one of them is SOLD.
        C.due(0, x.swap(1, 2));
        C.due(1, x.hour(1, true));
        x.round();
        C.due(0, x.hour(1, true));
        C.due(1, x.hour(0, true));
        C.due(8, x.house(6));
    }

    private static void sell() {
        C.promise(24);
        Ditchright x = new Ditchright();
        C.dueThrow(Checks.INDEX, () -> x.sell(99, 0));
        x.member(1, 1);
        x.member(1, 1);
        C.dueThrow(Checks.INDEX, () -> x.sell(24, 2));
        C.dueThrow(Checks.INDEX, () -> x.sell(0, -1));
        C.dueThrow(Checks.ARGUMENT, () -> x.sell(24, 0));
        C.dueThrow(Checks.ARGUMENT, () -> x.sell(-1, 0));
        C.due(0, x.sell(3, 1));
        C.due(1, x.sell(3, 0));
        C.due(0, x.sell(3, 1));
        C.due(1, x.hour(3, true));
        C.due(0, x.hour(3, false));
        // Also to the one that has it for good.
        C.due(1, x.sell(20, 1));
        C.due(2, x.round());
    }

    private static void feast() {
        C.promise(25);
        Ditchright x = new Ditchright();
        C.dueThrow(Checks.ARGUMENT, () -> x.feast(0));
        C.dueThrow(Checks.ARGUMENT, () -> x.feast(24));
        C.due(-1, x.feast(23));
        C.due(1, x.house(6));
        x.member(1, 1);
        x.member(1, 2);
        x.member(1, 3);
        x.sell(22, 0);
        C.due(2, x.feast(1));
        C.due("1 2 3 4 23|5 6 7 8 9 10 11 12|0 13 14 15 16 17 18 19 20 21 22|", all(x, 3, false));
        C.due(2, x.hour(23, false));
        C.due(0, x.feast(1));
        C.due("0 2 3 4 5|6 7 8 9 10 11 12 13|1 14 15 16 17 18 19 20 21 22 23|", all(x, 3, false));
        C.due(1, x.round());
        C.due(2, x.hour(0, true));
        C.due(0, x.feast(22));
        C.due(0, x.hour(3, true));
        C.due(1, x.hour(4, true));
    }

    private static void round() {
        C.promise(26);
        Ditchright x = new Ditchright();
        C.due(0, x.round());
        C.due(1, x.house(6));
        x.member(1, 1);
        x.member(1, 1);
        x.sell(0, 1);
        x.sell(0, 0);
        x.sell(23, 0);
        x.swap(1, 22);
        C.due(2, x.round());
        C.due(1, x.hour(23, true));
        C.due(1, x.hour(1, true));
        C.due(0, x.round());
    }

    private static void undo() {
        C.promise(27);
        Ditchright x = new Ditchright();
        C.dueThrow(Checks.STATE, x::undo);
        for (int k = 0; k <= 60; k += 5) {
            if (k == 0) {
                x.reach(-1, 0, 0, 0);
            } else {
                x.spring(0, k);
            }
        }
        C.due(8, x.house(6));
        for (int k = 7; k >= 0; k--) {
            C.due(k, x.undo());
            C.due(60 - 5 * (8 - k), x.ofReach(0, 1));
        }
        C.dueThrow(Checks.STATE, x::undo);
        C.due(20, x.spring(0, 1));
        C.due(1, x.spring(0, 2));
        C.due(1, x.undo());
        C.due(1, x.ofReach(0, 1));
        C.due(1, x.spring(0, 3));
        C.due(2, x.house(6));
        // What throws or asks is no STEP.
        C.dueThrow(Checks.ARGUMENT, () -> x.spring(0, 61));
        x.knock();
        x.digest();
        x.type(3);
        x.read();
        x.wipe();
        C.due(2, x.house(6));
        C.due(1, x.undo());
        C.due(1, x.ofReach(0, 1));
        C.due(0, x.undo());
        C.due(20, x.ofReach(0, 1));
        C.due(1, x.house(8));
    }

    /** The first steps of eight different ones, behind which a SLIP with a FAULT is read and the water court is knocked at. */
    private static Ditchright stepped(int steps) {
        Ditchright x = ponds();
        x.member(2, 3);
        x.member(3, 1);
        x.sell(3, 1);
        x.right(1, 4, 15);
        x.fish(0, 2);
        x.well(0, 2);
        x.pump(0, 3);
        x.type(12);
        x.run(3);
        for (int k = 0; k < steps; k++) {
            switch (k) {
                case 0: x.run(13); break;
                case 1: x.let(0, 0, 2); break;
                case 2: x.measure(2, 2, 9); break;
                case 3: x.feast(4); break;
                case 4: x.lead(1, -1); break;
                case 5: x.year(1, 2, 3, 4, 5, 6); break;
                case 6: x.member(1, 1); break;
                default: x.split(2, 1); break;
            }
        }
        x.type(10);
        C.due(-7, x.read());
        x.knock();
        return x;
    }

    private static void undoIsWhole() {
        String later = Checks.tellAll(stepped(8));
        for (int kept = 7; kept >= 0; kept--) {
            Ditchright x = stepped(8);
            for (int k = 7; k >= kept; k--) {
                C.due(k, x.undo());
            }
            String told = Checks.tellAll(x);
            C.due(Checks.tellAll(stepped(kept)), told);
            C.due(false, later.equals(told));
            later = told;
            C.due("g ", x.slip());
            C.due(1, x.house(7));
            C.due(1, x.house(8));
        }
    }

    /** Each call of the first four groups, also one that changes nothing, is one STEP. */
    private static void eachIsAStep() {
        for (int which = 0; which < 28; which++) {
            Ditchright x = ponds();
            x.well(0, 1);
            x.right(0, 4, 15);
            x.run(1);
            x.member(1, 1);
            x.member(1, 1);
            x.undo();
            x.undo();
            String before = Checks.tellAll(x);
            doOne(x, which);
            C.due(7, x.house(6));
            C.due(6, x.undo());
            C.due(before, Checks.tellAll(x));
        }
    }

    private static void doOne(Ditchright x, int which) {
        switch (which) {
            case 0: x.reach(0, 1, 1, 1); break;
            case 1: x.lead(1, -1); break;
            case 2: x.lead(1, 0); break;
            case 3: x.spring(0, 50); break;
            case 4: x.gate(0, 4, 9, 1); break;
            case 5: x.well(1, 2); break;
            case 6: x.pump(0, 9); break;
            case 7: x.right(1, 2, 1); break;
            case 8: x.fish(1, 25); break;
            case 9: x.pond(1, 9); break;
            case 10: x.wish(0, 2); break;
            case 11: x.born(0, 77); break;
            case 12: x.split(2, 3); break;
            case 13: x.raise(2, 3); break;
            case 14: x.move(2, 1, 1); break;
            case 15: x.run(1); break;
            case 16: x.year(1, 1, 1, 1, 1, 1); break;
            case 17: x.forget(); break;
            case 18: x.measure(2, 1, 9); break;
            case 19: x.let(0, 0, 3); break;
            case 20: x.carry(0, 0, 1); break;
            case 21: x.member(1, 1); break;
            case 22: x.feast(3); break;
            case 23: x.round(); break;
            case 24: x.carry(1, 0, 1); break;
            case 25: x.wish(0, x.ofRight(0, 5)); break;
            case 26: x.move(2, 1, 4); break;
            default:
                write(x, "f 0 1;f 0 2;");
                x.read();
                break;
        }
    }

    private static void type() {
        C.promise(28);
        Ditchright x = new Ditchright();
        C.dueThrow(Checks.ARGUMENT, () -> x.type(-1));
        C.dueThrow(Checks.ARGUMENT, () -> x.type(15));
        for (int k = 0; k < 60; k++) {
            C.due(k + 1, x.type(k % 15));
        }
        C.dueThrow(Checks.STATE, () -> x.type(0));
        C.dueThrow(Checks.ARGUMENT, () -> x.type(15));
        String once = "0123456789 ;grf";
        C.due(once + once + once + once, x.slip());
        C.due(0, x.house(6));
    }

    private static void wipe() {
        C.promise(29);
        Ditchright x = new Ditchright();
        C.due(0, x.wipe());
        x.type(1);
        x.type(2);
        C.due(2, x.wipe());
        C.due("", x.slip());
        C.due(0, x.wipe());
        C.due(1, x.type(14));
        C.due("f", x.slip());
        C.due(0, x.house(6));
    }

    private static void write(Ditchright x, String text) {
        x.wipe();
        for (int k = 0; k < text.length(); k++) {
            x.type("0123456789 ;grf".indexOf(text.charAt(k)));
        }
    }

    private static void read() {
        C.promise(30);
        Ditchright x = new Ditchright();
        C.due(0, x.read());
        C.due(0, x.house(7));
        x.reach(-1, 30, 0, 0);
        write(x, "g 0 9 12 03;r 0 12 15;r 0 7 08;f 0 40;");
        C.due(4, x.read());
        C.due("g 0 9 12 03;r 0 12 15;r 0 7 08;f 0 40;", x.slip());
        C.due(2, x.house(6));
        C.due(9, x.ofGate(0, 1));
        C.due(12, x.ofGate(0, 2));
        C.due(3, x.ofGate(0, 3));
        C.due(12, x.ofRight(0, 3));
        C.due(15, x.ofRight(0, 4));
        C.due(7, x.ofRight(1, 3));
        C.due(8, x.ofRight(1, 4));
        C.due(1, x.ofRight(2, 0));
        C.due(40, x.ofRight(2, 3));
        // All of it is one STEP.
        C.due(1, x.undo());
        C.due(0, x.house(1));
        C.due(0, x.house(2));
        write(x, "g 0 9 12 3;");
        C.due(1, x.read());
        write(x, "g 0 8 12 3; ");
        C.due(-7, x.read());
        C.due(1, x.house(1));
        C.due(1, x.house(7));
        C.due(-7, x.read());
        C.due(2, x.house(7));
        C.due(2, x.house(6));
    }

    private static void readStops() {
        Ditchright x = new Ditchright();
        x.reach(-1, 30, 0, 0);
        write(x, "g 0 1 12 3;g 0 1 12 3;g 0 2 12 3;");
        C.due(1, x.read());
        C.due(1, x.house(1));
        C.due(2, x.house(6));
        // The first one is refused now: nothing is done, and that is no STEP.
        C.due(0, x.read());
        C.due(2, x.house(6));
        C.due(0, x.house(7));
        write(x, "f 0 5;r 0 13 1;f 0 6;");
        C.due(1, x.read());
        write(x, "f 0 5;r 1 1 1;");
        C.due(1, x.read());
        write(x, "f 0 5;r 0 1 16;");
        C.due(1, x.read());
        write(x, "f 0 5;f 0 41;f 0 1;");
        C.due(1, x.read());
        write(x, "f 0 5;f 1 4;f 0 1;");
        C.due(1, x.read());
        write(x, "g 0 3 41 0;");
        C.due(0, x.read());
        write(x, "g 0 3 41 5;");
        C.due(0, x.read());
        write(x, "g 0 3 40 11;");
        C.due(0, x.read());
        write(x, "g 0 10 40 1;");
        C.due(0, x.read());
        write(x, "g 1 1 40 1;");
        C.due(0, x.read());
        C.due(5, x.house(2));
        write(x, "f 0 1;f 0 1;f 0 1;f 0 1;f 0 1;f 0 1;f 0 1;f 0 1;f 0 1;f 0 1;");
        C.due(5, x.read());
        C.due(10, x.house(2));
        write(x, "r 0 1 1;");
        C.due(0, x.read());
        x.undo();
        C.due(5, x.house(2));
        x.undo();
        C.due(4, x.house(2));
    }

    private static void knock() {
        C.promise(31);
        Ditchright x = new Ditchright();
        C.due(1, x.knock());
        C.due(2, x.knock());
        x.reach(-1, 0, 0, 0);
        C.due(3, x.knock());
        C.due(0, x.undo());
        C.due(3, x.house(8));
        C.due(4, x.knock());
    }
}
