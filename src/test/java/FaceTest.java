import java.lang.reflect.Constructor;
import java.lang.reflect.Field;
import java.lang.reflect.InvocationTargetException;
import java.lang.reflect.Method;
import java.lang.reflect.Modifier;
import java.util.ArrayList;
import java.util.Arrays;
import java.util.HashSet;
import java.util.List;
import java.util.Set;
import java.util.TreeSet;

/** The face as the document gives it, and that for any arguments nothing but its exceptions is thrown. */
public final class FaceTest {
    private static final String[] FACE = {
        "int reach(int,int,int,int) XAS", "int lead(int,int) XS", "int spring(int,int) XA", "int gate(int,int,int,int) XAS",
        "int well(int,int) XAS", "int pump(int,int) XA", "int right(int,int,int) XAS", "int fish(int,int) XAS",
        "int pond(int,int) XAS", "int wish(int,int) XA", "int born(int,int) XA", "int split(int,int) XAS",
        "int raise(int,int) XAS", "int move(int,int,int) XAS", "int run(int) A", "int year(int,int,int,int,int,int) AS",
        "int forget() ", "int measure(int,int,int) XAS", "int let(int,int,int) XA", "int carry(int,int,int) XA",
        "int member(int,int) AS", "int swap(int,int) AS", "int sell(int,int) XA", "int feast(int) A", "int round() ",
        "int undo() S", "int type(int) AS", "int wipe() ", "int read() ", "int knock() ", "int share(int,boolean) X",
        "int byAge(int) X", "java.lang.String why(int) X", "java.lang.String calls(int) X", "int harms(int,int,int) XA",
        "int greatest(int,int) XA", "int sure(int,int) XA", "java.lang.String surety(int) X", "int balance(int) A",
        "int ofReach(int,int) XA", "int ofGate(int,int) XA", "int ofRight(int,int) XA", "int had(int,int) XA",
        "int ofPond(int,int) XA", "int ofWell(int,int) XA", "int portion(int,int,int) XA", "int hour(int,boolean) A",
        "java.lang.String hours(int,boolean) X", "int fault() ", "java.lang.String slip() ", "int house(int) A",
        "boolean isSound() ", "long digest() ",
    };
    private static final int[] ODD = {Integer.MIN_VALUE, -1000, -2, -1, 0, 1, 2, 3, 5, 9, 10, 11, 15, 16, 24, 40, 60, 61, 1000,
        Integer.MAX_VALUE - 1, Integer.MAX_VALUE};

    private static int wrong = 0;

    public static void main(String[] args) throws Exception {
        members();
        names();
        oddArguments();
        if (wrong > 0) {
            System.exit(1);
        }
    }

    private static void fail(String text) {
        wrong++;
        System.out.println(text);
    }

    private static String told(Method method) {
        StringBuilder text = new StringBuilder(method.getReturnType().getName()).append(' ').append(method.getName()).append('(');
        Class<?>[] types = method.getParameterTypes();
        for (int k = 0; k < types.length; k++) {
            text.append(k > 0 ? "," : "").append(types[k].getName());
        }
        text.append(") ");
        for (Class<?> thrown : method.getExceptionTypes()) {
            text.append(thrown == IndexOutOfBoundsException.class ? 'X' : thrown == IllegalArgumentException.class ? 'A' : 'S');
        }
        return text.toString();
    }

    private static void members() {
        Set<String> due = new TreeSet<>(Arrays.asList(FACE));
        Set<String> got = new TreeSet<>();
        for (Method method : Ditchright.class.getDeclaredMethods()) {
            if (!Modifier.isPrivate(method.getModifiers())) {
                got.add(told(method));
            }
        }
        if (!due.equals(got)) {
            fail("the face is " + got + ", due is " + due);
        }
        for (Field field : Ditchright.class.getDeclaredFields()) {
            if (!Modifier.isPrivate(field.getModifiers())) {
                fail("field " + field);
            }
        }
        Constructor<?>[] made = Ditchright.class.getDeclaredConstructors();
        if (made.length != 1 || made[0].getParameterCount() != 0 || !Modifier.isPublic(made[0].getModifiers())) {
            fail("constructors " + Arrays.toString(made));
        }
        if (!Modifier.isFinal(Ditchright.class.getModifiers())) {
            fail("the class is not final");
        }
        for (Class<?> inside : Ditchright.class.getDeclaredClasses()) {
            int is = inside.getModifiers();
            if (!Modifier.isStatic(is) || Modifier.isPublic(is) || Modifier.isProtected(is)) {
                fail("class " + inside);
            }
        }
    }

    /** No private method bears the name of a public one. */
    private static void names() {
        Set<String> face = new HashSet<>();
        for (Method method : Ditchright.class.getMethods()) {
            face.add(method.getName());
        }
        List<Class<?>> all = new ArrayList<>(Arrays.asList(Ditchright.class.getDeclaredClasses()));
        all.add(Ditchright.class);
        for (Class<?> one : all) {
            for (Method method : one.getDeclaredMethods()) {
                boolean isFace = one == Ditchright.class && Modifier.isPublic(method.getModifiers());
                if (!isFace && face.contains(method.getName())) {
                    fail("method " + method);
                }
            }
        }
    }

    private static Ditchright built(int most) {
        Ditchright x = new Ditchright();
        for (int k = 0; k < most; k++) {
            build(x, k);
        }
        return x;
    }

    private static void build(Ditchright x, int k) {
        switch (k) {
            case 0: x.reach(-1, 20, 1, 1); break;
            case 1: x.reach(0, 30, 2, 1); break;
            case 2: x.gate(0, 3, 20, 4); break;
            case 3: x.gate(1, 3, 20, 4); break;
            case 4: x.right(0, 20, 15); break;
            case 5: x.pond(1, 30); break;
            case 6: x.fish(0, 9); break;
            case 7: x.pond(0, 30); break;
            case 8: x.well(0, 1); break;
            case 9: x.run(3); break;
            case 10: x.member(3, 2); break;
            case 11: x.year(3, 3, 3, 3, 3, 3); break;
            default: x.right(1, 9, 7); break;
        }
    }

    private static void oddArguments() throws Exception {
        for (int most = 0; most <= 13; most++) {
            for (Method method : Ditchright.class.getDeclaredMethods()) {
                if (Modifier.isPublic(method.getModifiers())) {
                    tryAll(method, most);
                }
            }
        }
    }

    private static void tryAll(Method method, int most) throws Exception {
        Class<?>[] types = method.getParameterTypes();
        Ditchright x = built(most);
        int calls = 0;
        int tries = types.length == 0 ? 2 : types.length == 1 ? ODD.length : 300;
        for (int k = 0; k < tries; k++) {
            Object[] with = new Object[types.length];
            int mixed = k * 7919 + most;
            for (int j = 0; j < with.length; j++) {
                int odd = types.length == 1 ? k : mixed % ODD.length;
                with[j] = types[j] == boolean.class ? (Object) (mixed % 2 == 0) : (Object) ODD[odd];
                mixed = mixed / 3 + 13 * j + k;
            }
            if (++calls > 400) {
                x = built(most);
                calls = 0;
            }
            call(x, method, with);
        }
    }

    private static void call(Ditchright x, Method method, Object[] with) throws Exception {
        try {
            method.invoke(x, with);
        } catch (InvocationTargetException e) {
            Class<?> thrown = e.getCause().getClass();
            if (!Arrays.asList(method.getExceptionTypes()).contains(thrown)) {
                fail(method.getName() + Arrays.toString(with) + " throws " + e.getCause());
            }
        }
    }
}
