import java.lang.reflect.InvocationTargetException;
import java.lang.reflect.Method;
import java.util.ArrayList;
import java.util.List;
import java.util.Random;

/**
 * Runs of calls with numbers drawn by fixed seeds, on the class and on the Model; each answer has to be the same.
 * Arguments: how many seeds, and which one is the first.
 */
public final class RandomRunsTest {
    private static final class Call {
        final Method ours;
        final Method models;
        final String name;
        final int weight;
        final String[] ranges;

        Call(String line) throws NoSuchMethodException {
            String[] parts = line.split(" ");
            name = parts[0];
            weight = Integer.parseInt(parts[1]);
            ranges = new String[parts.length - 2];
            Class<?>[] types = new Class<?>[ranges.length];
            for (int k = 0; k < ranges.length; k++) {
                ranges[k] = parts[k + 2];
                types[k] = ranges[k].equals("bool") ? boolean.class : int.class;
            }
            ours = Ditchright.class.getMethod(name, types);
            models = Model.class.getMethod(name, types);
        }
    }

    // A letter stands for a number of a thing: R reach, G gate, W well, U right, P pond, M member, D a mouth.
    private static final String[] CALLS = {
        "reach 8 D 0..L 0..5 0..3", "lead 4 R D", "spring 4 R 0..L", "gate 14 R 0..9 1..40 0..10",
        "well 4 R 1..5", "pump 4 W 0..9",
        "right 14 G 1..25 S", "fish 5 R 1..40", "pond 6 G 1..60", "wish 5 U 0..25", "born 10 U 0..60",
        "split 4 U 1..12", "raise 4 U 1..20", "move 12 U G 1..6",
        "run 12 1..N", "year 6 0..20 0..20 0..20 0..20 0..20 0..20", "forget 1", "measure 8 U 1..5 0..40",
        "let 8 P P 1..20", "carry 6 P P P",
        "member 5 1..9 1..9", "swap 4 0..23 0..23", "sell 5 0..23 M", "feast 3 1..23", "round 2",
        "undo 5", "type 4 0..14", "wipe 1", "read 1", "knock 1",
        "share 6 U bool", "byAge 3 U", "why 14 U", "calls 14 U", "harms 5 U G 1..9", "greatest 2 U G",
        "sure 3 U 0..2", "surety 3 U", "balance 2 0..4",
        "ofReach 3 R 0..10", "ofGate 3 G 0..7", "ofRight 3 U 0..10", "had 3 U 1..5", "ofPond 3 P 0..7",
        "ofWell 2 W 0..3", "portion 3 0..2 M 0..999", "hour 2 0..23 bool", "hours 3 M bool",
        "fault 2", "slip 1", "house 2 0..10", "isSound 1", "digest 1",
    };

    private static int wrong = 0;

    public static void main(String[] args) throws Exception {
        int seeds = args.length > 0 ? Integer.parseInt(args[0]) : 60;
        int first = args.length > 1 ? Integer.parseInt(args[1]) : 1;
        List<Call> bag = new ArrayList<>();
        for (String line : CALLS) {
            Call call = new Call(line);
            for (int k = 0; k < call.weight; k++) {
                bag.add(call);
            }
        }
        for (int seed = first; seed < first + seeds && wrong == 0; seed++) {
            play(seed, bag);
        }
        if (wrong > 0) {
            System.exit(1);
        }
    }

    private static void play(int seed, List<Call> bag) throws Exception {
        Random random = new Random(seed * 7919L);
        Ditchright ours = new Ditchright();
        Model model = new Model();
        StringBuilder told = new StringBuilder();
        // The first calls of a run build the river, or else most others would have nothing to work on.
        int building = 20 + random.nextInt(40);
        int spread = 1 + random.nextInt(3);
        // Some rivers are dry, and in some the days go by slowly, so that USES are not soon GONE.
        int most = random.nextBoolean() ? 60 : 20;
        int days = random.nextInt(3) == 0 ? 20 : 3;
        List<String> writing = new ArrayList<>();
        // What is answered behind the 512th call is free, and the last one is a digest.
        int calls = 1;
        for (int k = 0; calls < 512; k++) {
            Call call = bag.get(random.nextInt(bag.size()));
            if (k < building && random.nextInt(3) > 0) {
                String[] builders = {"reach", "gate", "right", "pond", "fish", "gate", "right", "born", "year", "member"};
                call = named(bag, builders[random.nextInt(builders.length)]);
            }
            if (writing.isEmpty() && call.name.equals("type") && random.nextInt(3) > 0) {
                plan(writing, random, model);
            }
            Object[] with = new Object[call.ranges.length];
            for (int j = 0; j < with.length; j++) {
                with[j] = draw(filled(call.ranges[j], random, most, days), random, model, spread);
            }
            if (!writing.isEmpty() && random.nextInt(4) > 0) {
                String next = writing.remove(0);
                boolean isSign = Character.isDigit(next.charAt(0));
                call = named(bag, isSign ? "type" : next);
                with = isSign ? new Object[] {Integer.parseInt(next)} : new Object[0];
            }
            Object a = answer(call.ours, ours, with);
            Object b = answer(call.models, model, with);
            calls++;
            told.append(call.name).append(java.util.Arrays.toString(with)).append(" = ").append(a).append('\n');
            if (!a.equals(b)) {
                wrong++;
                System.out.println(told);
                System.out.println("seed " + seed + ": the model answers " + b);
                return;
            }
            if (random.nextInt(60) == 0 || calls == 512) {
                calls++;
                long d = ours.digest();
                if (d != model.digest()) {
                    wrong++;
                    System.out.println(told);
                    System.out.println("seed " + seed + ": digests differ");
                    return;
                }
            }
        }
    }

    private static Call named(List<Call> bag, String name) {
        for (Call call : bag) {
            if (call.name.equals(name)) {
                return call;
            }
        }
        throw new IllegalArgumentException(name);
    }

    /** Writes a STATEMENT or two, mostly right ones. */
    private static void plan(List<String> writing, Random random, Model model) {
        if (!model.signs.isEmpty() && random.nextInt(4) > 0) {
            writing.add("wipe");
        }
        int many = 1 + random.nextInt(2);
        for (int k = 0; k < many; k++) {
            int kind = 12 + random.nextInt(3);
            writing.add("" + kind);
            int reaches = Math.max(1, model.s.reaches.size());
            int gates = Math.max(1, model.s.gates.size());
            int[] numbers = kind == 12
                    ? new int[] {random.nextInt(reaches), random.nextInt(11), random.nextInt(30), random.nextInt(12)}
                    : kind == 13
                    ? new int[] {random.nextInt(gates), random.nextInt(20), random.nextInt(16)}
                    : new int[] {random.nextInt(reaches), random.nextInt(45)};
            for (int n : numbers) {
                writing.add("10");
                if (n >= 10 || random.nextInt(4) == 0) {
                    writing.add("" + n / 10);
                }
                writing.add("" + n % 10);
            }
            writing.add("11");
        }
        writing.add("read");
    }

    private static String filled(String range, Random random, int most, int days) {
        if (range.equals("S")) {
            return random.nextBoolean() ? "15..15" : "1..15";
        }
        return range.replace("L", "" + most).replace("N", "" + days);
    }

    private static Object draw(String range, Random random, Model model, int spread) {
        if (range.equals("bool")) {
            return random.nextBoolean();
        }
        if (random.nextInt(150) == 0) {
            int[] odd = {Integer.MIN_VALUE, Integer.MAX_VALUE, -1, -2, 41, 61, 100, 1000, 64, 512};
            return odd[random.nextInt(odd.length)];
        }
        int edge = random.nextInt(40) == 0 ? 1 : 0;
        int dots = range.indexOf("..");
        if (dots > 0) {
            int low = Integer.parseInt(range.substring(0, dots));
            int high = Integer.parseInt(range.substring(dots + 2));
            if (high >= 20 && high < 30 && random.nextInt(spread + 1) > 0) {
                high = 10;
            }
            return low - edge + random.nextInt(high - low + 1 + 2 * edge);
        }
        int count = 0;
        switch (range.charAt(0)) {
            case 'R': case 'D': count = model.s.reaches.size(); break;
            case 'G': count = model.s.gates.size(); break;
            case 'W': count = model.s.wells.size(); break;
            case 'U': count = model.s.rights.size(); break;
            case 'P': count = model.s.ponds.size(); break;
            default: count = model.s.members.size(); break;
        }
        if (range.equals("D") && random.nextInt(4) == 0) {
            return -1;
        }
        return -edge + random.nextInt(Math.max(1, count) + 2 * edge);
    }

    /** The answer, or which exception; what the machine itself throws bears another name than what the class throws. */
    private static Object answer(Method method, Object on, Object[] with) throws Exception {
        try {
            return method.invoke(on, with);
        } catch (InvocationTargetException e) {
            return e.getCause().getClass().getName();
        }
    }
}
