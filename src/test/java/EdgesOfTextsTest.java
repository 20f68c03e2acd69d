/** Edges of the promises 28 to 31, 50 and 51: the SLIP and the water court. */
public final class EdgesOfTextsTest {
    private static final Edges E = new Edges();
    private static final Class<?> ARGUMENT = Checks.ARGUMENT;
    private static final Class<?> STATE = Checks.STATE;
    private static final String SIGNS = "0123456789 ;grf";

    public static void main(String[] args) {
        typeNumbers();
        typeFull();
        wipeEmptyAndFull();
        readNothing();
        readFault();
        readNumbersOfGates();
        readNumbersOfRights();
        readNumbersOfFish();
        readUntilItIsFull();
        readStopsAtTheFirstOne();
        readSixtySigns();
        readIsOneStep();
        knockCounts();
        faultAtEachPlace();
        faultOfWhatIsMissing();
        faultOfNumbers();
        slipAsItIs();
        E.end();
    }

    private static Edges.Build with(Edges.Build build, String text) {
        return () -> {
            Ditchright x = build.made();
            x.wipe();
            Rivers.write(x, text);
            return x;
        };
    }

    private static void typeNumbers() {
        E.promise(28);
        E.range(ARGUMENT, Rivers.EMPTY, 0, 14, Ditchright::type);
        E.range(ARGUMENT, Rivers.SOME, 0, 14, Ditchright::type);
        for (int sign = 0; sign <= 14; sign++) {
            Ditchright x = new Ditchright();
            E.due(1, x.type(sign));
            E.due(SIGNS.substring(sign, sign + 1), x.slip());
            E.due(2, x.type(sign));
            E.due(0, x.house(6));
        }
    }

    private static void typeFull() {
        for (int sign = 0; sign <= 14; sign++) {
            int asked = sign;
            E.out(STATE, Rivers.FULL, x -> x.type(asked));
        }
        E.out(ARGUMENT, Rivers.FULL, x -> x.type(15));
        E.out(ARGUMENT, Rivers.FULL, x -> x.type(-1));
        Ditchright x = Rivers.EMPTY.made();
        for (int k = 1; k <= 60; k++) {
            E.due(k, x.type(11));
        }
        E.dueThrow(STATE, () -> x.type(11));
        E.due(60, x.slip().length());
        E.due(60, x.wipe());
        E.due(1, x.type(11));
        // No undo() makes room on the SLIP.
        Ditchright y = Rivers.FULL.made();
        y.undo();
        E.dueThrow(STATE, () -> y.type(0));
        E.due(60, y.slip().length());
    }

    private static void wipeEmptyAndFull() {
        E.promise(29);
        E.in(0, Rivers.EMPTY, Ditchright::wipe);
        E.in(6, Rivers.SOME, Ditchright::wipe);
        E.in(60, Rivers.FULL, Ditchright::wipe);
        Ditchright x = Rivers.FULL.made();
        x.wipe();
        E.due("", x.slip());
        E.due(-1, x.fault());
        E.due(0, x.read());
        E.due(0, x.wipe());
        E.due(8, x.house(6));
    }

    private static void readNothing() {
        E.promise(30);
        Ditchright x = with(Rivers.SOME, "").made();
        Ditchright y = with(Rivers.SOME, "").made();
        E.due(0, x.read());
        E.due(0, x.house(7));
        E.due(y.digest(), x.digest());
        // Refused from the first one on: nothing is done, no STEP, and no FAULT either.
        String[] refused = {"g 3 1 1 1;f 0 1;", "g 0 3 1 1;f 0 1;", "r 4 1 1;f 0 1;", "r 0 0 1;", "f 3 1;", "f 0 0;f 0 1;"};
        for (String text : refused) {
            Ditchright u = with(Rivers.SOME, text).made();
            long before = u.digest();
            E.due(0, u.read());
            E.due(before, u.digest());
            E.due(0, u.house(7));
            E.due(text, u.slip());
        }
    }

    private static void readFault() {
        String[] faults = {"g", "f 0 1", "f 0 1;;", "f 0 1;f 0 1", "f 0 1;g 0 0 1 1 ", "r 0 1 1;5", ";"};
        for (String text : faults) {
            Ditchright x = with(Rivers.SOME, text).made();
            int steps = x.house(6);
            E.due(-7, x.read());
            E.due(1, x.house(7));
            E.due(5, x.house(2));
            E.due(4, x.house(1));
            E.due(steps, x.house(6));
            E.due(text, x.slip());
            E.due(-7, x.read());
            E.due(2, x.house(7));
            // But for what is counted, all is as if a POND's water had been REFUSED.
            Ditchright y = with(Rivers.SOME, text).made();
            y.let(1, 0, 60);
            y.let(1, 0, 60);
            E.due(y.digest(), x.digest());
        }
    }

    /** What the SLIP tells goes through the same door as gate(), right() and fish(): the last that is in, the first out. */
    private static void readNumbersOfGates() {
        String[] in = {"g 0 0 1 0;", "g 0 9 40 10;", "g 00 09 01 00;", "g 0 6 40 0;"};
        String[] out = {"g 1 0 1 0;", "g 0 10 1 0;", "g 0 0 0 0;", "g 0 0 41 0;", "g 0 0 1 11;", "g 0 5 1 0;", "g 99 0 1 0;",
            "g 0 99 1 0;", "g 0 0 99 0;", "g 0 0 1 99;"};
        dueDone(Rivers.GATE, in, out);
        Ditchright y = with(Rivers.SOME, "g 2 0 3 4;r 1 5 6;f 1 7;").made();
        E.due(3, y.read());
        int[] gate = {2, 0, 3, 4};
        for (int what = 0; what <= 3; what++) {
            E.due(gate[what], y.ofGate(4, what));
        }
        E.due(1, y.ofRight(5, 1));
        E.due(5, y.ofRight(5, 3));
        E.due(6, y.ofRight(5, 4));
        E.due(1, y.ofRight(6, 1));
        E.due(7, y.ofRight(6, 3));
        Ditchright x = with(Rivers.GATE, "g 0 9 40 10;").made();
        x.read();
        E.due(9, x.ofGate(1, 1));
        E.due(40, x.ofGate(1, 2));
        E.due(10, x.ofGate(1, 3));
    }

    private static void readNumbersOfRights() {
        String[] in = {"r 0 1 1;", "r 0 12 15;", "r 00 01 01;"};
        String[] out = {"r 1 1 1;", "r 0 0 1;", "r 0 13 1;", "r 0 1 0;", "r 0 1 16;", "r 99 1 1;", "r 0 99 1;", "r 0 1 99;"};
        dueDone(Rivers.GATE, in, out);
        Ditchright x = with(Rivers.GATE, "r 0 12 15;").made();
        x.run(7);
        x.read();
        int[] want = {0, 0, 7, 12, 15, 12, 12, 0, 0, 0, -1};
        for (int what = 0; what <= 10; what++) {
            E.due(want[what], x.ofRight(0, what));
        }
    }

    private static void readNumbersOfFish() {
        String[] in = {"f 0 1;", "f 0 40;", "f 00 01;"};
        String[] out = {"f 1 1;", "f 0 0;", "f 0 41;", "f 99 1;", "f 0 99;"};
        dueDone(Rivers.GATE, in, out);
        Ditchright x = with(Rivers.GATE, "f 0 40;").made();
        x.run(7);
        x.read();
        int[] want = {1, 0, 7, 40, 15, 40, 40, 0, 0, 0, -1};
        for (int what = 0; what <= 10; what++) {
            E.due(want[what], x.ofRight(0, what));
        }
    }

    private static void dueDone(Edges.Build build, String[] in, String[] out) {
        for (String text : in) {
            E.in(1, with(build, text), Ditchright::read);
        }
        for (String text : out) {
            E.in(0, with(build, text), Ditchright::read);
            // Those ahead of it are done, those behind it are not.
            E.in(1, with(build, "f 0 7;" + text + "f 0 8;"), Ditchright::read);
        }
    }

    private static void readUntilItIsFull() {
        // Room for 7 more GATES, of which 5 are told, then 2 of 3.
        Ditchright x = with(Rivers.GATE, "g 0 0 1 1;g 0 1 1 1;g 0 2 1 1;g 0 3 1 1;g 0 4 1 1;").made();
        E.due(5, x.read());
        x.wipe();
        Rivers.write(x, "g 0 6 1 1;g 0 7 1 1;g 0 8 1 1;f 0 1;");
        E.due(2, x.read());
        E.due(8, x.house(1));
        E.due(0, x.house(2));
        E.due(0, x.read());
        x.undo();
        E.due(6, x.house(1));
        E.due(2, x.read());
        // Room for one RIGHT more.
        Ditchright y = with(Rivers.CROWD, "f 0 1;r 0 1 1;").made();
        E.due(0, y.read());
        y.undo();
        E.due(1, y.read());
        E.due(1, y.ofRight(9, 0));
        E.due(0, y.read());
    }

    private static void readStopsAtTheFirstOne() {
        // The GATE 1 that the second one needs is told by the first one.
        Ditchright x = with(Rivers.GATE, "g 0 1 3 1;r 1 3 1;r 1 4 1;r 1 2 1;").made();
        E.due(2, x.read());
        E.due(1, x.house(2));
        E.due(2, x.house(1));
        E.due(3, x.ofRight(0, 3));
        Ditchright y = with(Rivers.GATE, "r 1 3 1;g 0 1 3 1;").made();
        E.due(0, y.read());
        E.due(1, y.house(1));
    }

    private static void readSixtySigns() {
        String ten = "f 0 1;f 0 2;f 0 3;f 0 4;f 0 5;f 0 6;f 0 7;f 0 8;f 0 9;f 0 1;";
        Ditchright x = with(Rivers.GATE, ten).made();
        E.due(60, x.slip().length());
        E.due(-1, x.fault());
        E.due(10, x.read());
        E.due(10, x.house(2));
        E.due(9, x.ofRight(8, 3));
        E.due(1, x.ofRight(9, 3));
        x.undo();
        E.due(0, x.house(2));
        // The last of 60 SIGNS makes the FAULT.
        Ditchright y = with(Rivers.GATE, ten.substring(0, 59) + "0").made();
        E.due(60, y.fault());
        E.due(-7, y.read());
    }

    private static void readIsOneStep() {
        Ditchright x = with(Rivers.GATE, "g 0 1 9 1;r 1 9 15;f 0 2;f 0 3;").made();
        String before = Checks.tellAll(x);
        E.due(4, x.read());
        E.due(3, x.house(6));
        E.due(2, x.undo());
        E.due(before, Checks.tellAll(x));
        E.due(4, x.read());
        // The eighth one goes by it, as by each other STEP.
        Ditchright y = with(Rivers.SOME, "f 0 1;f 0 1;").made();
        E.due(8, y.house(6));
        E.due(2, y.read());
        E.due(8, y.house(6));
        E.due(7, y.undo());
        E.due(5, y.house(2));
    }

    private static void knockCounts() {
        E.promise(31);
        Ditchright x = new Ditchright();
        for (int k = 1; k <= 100; k++) {
            E.due(k, x.knock());
        }
        E.due(100, x.house(8));
        E.due(0, x.house(6));
        E.dueThrow(STATE, x::undo);
        E.due(101, x.knock());
    }

    private static void faultAtEachPlace() {
        E.promise(50);
        String fine = "g 0 10 2 3;r 1 22 3;f 4 5;";
        for (int place = 0; place <= fine.length(); place++) {
            String ahead = fine.substring(0, place);
            boolean isEnd = place == 0 || fine.charAt(place - 1) == ';';
            // Cut off there, something is missing, but between STATEMENTS.
            E.in(isEnd ? -1 : place, with(Rivers.EMPTY, ahead), Ditchright::fault);
            if (place < fine.length() && fine.charAt(place) != ';') {
                E.in(place, with(Rivers.EMPTY, ahead + ";" + fine.substring(place)), Ditchright::fault);
            }
            if (!isEnd) {
                E.in(place, with(Rivers.EMPTY, ahead + "g;" + fine.substring(place)), Ditchright::fault);
            } else {
                E.in(place, with(Rivers.EMPTY, ahead + "0" + fine.substring(place)), Ditchright::fault);
                E.in(place, with(Rivers.EMPTY, ahead + " " + fine.substring(place)), Ditchright::fault);
            }
        }
    }

    private static void faultOfWhatIsMissing() {
        StringBuilder nine = new StringBuilder();
        for (int k = 0; k < 9; k++) {
            nine.append("f 0 1;");
        }
        // 54 SIGNS, and up to 6 more: the last place is 59, what is missing behind it has the place 60.
        E.in(-1, with(Rivers.EMPTY, nine + "f 1 3;"), Ditchright::fault);
        E.in(60, with(Rivers.EMPTY, nine + "f 12 3"), Ditchright::fault);
        E.in(59, with(Rivers.EMPTY, nine + "f 1 3 "), Ditchright::fault);
        E.in(59, with(Rivers.EMPTY, nine + "f 1 3"), Ditchright::fault);
        E.in(58, with(Rivers.EMPTY, nine + "f 12;"), Ditchright::fault);
        E.in(54, with(Rivers.EMPTY, nine + ";"), Ditchright::fault);
        E.in(55, with(Rivers.EMPTY, nine + "r"), Ditchright::fault);
        E.in(1, with(Rivers.EMPTY, "r"), Ditchright::fault);
        E.in(0, with(Rivers.EMPTY, ";"), Ditchright::fault);
    }

    /** 4, 3 or 2 numbers, of one or two digits, with one blank ahead of each one. */
    private static void faultOfNumbers() {
        String[] letters = {"g", "r", "f"};
        int[] due = {4, 3, 2};
        for (int k = 0; k < 3; k++) {
            StringBuilder one = new StringBuilder(letters[k]);
            StringBuilder two = new StringBuilder(letters[k]);
            for (int n = 1; n <= 5; n++) {
                one.append(" 7");
                two.append(" 89");
                String shortText = one + ";";
                String longText = two + ";";
                if (n < due[k]) {
                    E.in(shortText.length() - 1, with(Rivers.EMPTY, shortText), Ditchright::fault);
                    E.in(longText.length() - 1, with(Rivers.EMPTY, longText), Ditchright::fault);
                    E.in(shortText.length(), with(Rivers.EMPTY, one + "  7;"), Ditchright::fault);
                } else if (n == due[k]) {
                    E.in(-1, with(Rivers.EMPTY, shortText), Ditchright::fault);
                    E.in(-1, with(Rivers.EMPTY, longText), Ditchright::fault);
                    E.in(longText.length() - 1, with(Rivers.EMPTY, two + "0;"), Ditchright::fault);
                } else {
                    E.in(1 + 2 * due[k], with(Rivers.EMPTY, shortText), Ditchright::fault);
                    E.in(1 + 3 * due[k], with(Rivers.EMPTY, longText), Ditchright::fault);
                }
            }
            E.in(1, with(Rivers.EMPTY, letters[k] + "7 7 7 7;"), Ditchright::fault);
            E.in(1, with(Rivers.EMPTY, letters[k] + ";"), Ditchright::fault);
            // The same behind another STATEMENT, of which nothing is left over.
            E.in(7, with(Rivers.EMPTY, "f 0 1;" + letters[k] + "7 7 7 7;"), Ditchright::fault);
            E.in(7, with(Rivers.EMPTY, "f 0 1;" + letters[k] + ";"), Ditchright::fault);
            E.in(7, with(Rivers.EMPTY, "f 0 1;" + letters[k]), Ditchright::fault);
            E.in(1, with(Rivers.EMPTY, letters[k] + letters[k] + " 7 7 7 7;"), Ditchright::fault);
        }
    }

    private static void slipAsItIs() {
        E.promise(51);
        E.in("", Rivers.EMPTY, Ditchright::slip);
        E.in("f 2 3;", Rivers.SOME, Ditchright::slip);
        E.in(SIGNS + SIGNS + SIGNS + SIGNS, Rivers.FULL, Ditchright::slip);
        Ditchright x = with(Rivers.GATE, "f 0 1;").made();
        x.read();
        E.due("f 0 1;", x.slip());
        x.undo();
        E.due("f 0 1;", x.slip());
        E.dueThrow(ARGUMENT, () -> x.type(15));
        E.due("f 0 1;", x.slip());
    }
}
