import java.lang.reflect.Constructor;
import java.lang.reflect.Field;
import java.lang.reflect.Method;
import java.lang.reflect.Modifier;
import java.util.Arrays;
import java.util.TreeSet;

/** The public face is the document's and nothing more; the private parts keep to LANGUAGE.md where that shows. */
public final class FaceTest {
    private static final String[] FACE = {
        "int count(int)", "int clock(int)", "int feed(int,int,int,int,int,int)", "int text()", "int force(int)",
        "int asks(int,int)", "int person(int,int,int)", "int put(int,int,int)", "int tells(int,int)",
        "int bell(int)", "int strike()", "int run(int,int)", "int when(int)", "int dial(int)", "int hush(int)",
        "int council(int,int,int)", "int lesson(int,int)", "int pair(int)", "long mean(int,int)",
        "long share(int,int)", "int judge(int)", "int kinds(int,int,int)", "int nerves(int,int,int)",
        "int turned(int)", "int hours(int)", "int laws(int)", "int film(int,int)", "int drawn(int,int,int)",
        "long odds(int,int,int,int)", "int image()", "int back()", "int sheet(int,int,int)",
        "int cell(int,int,int)", "int copy(int,int,int,int,int)", "int townBy(int,int,int,int)",
        "int taken(int,int)" };
    private static int wrong = 0;

    public static void main(String[] args) {
        expect(Modifier.isFinal(BellOfLies.class.getModifiers()), "the class is final");
        TreeSet<String> names = checkMethods();
        checkFields();
        Constructor<?>[] makers = BellOfLies.class.getDeclaredConstructors();
        expect(makers.length == 1 && Modifier.isPublic(makers[0].getModifiers())
            && makers[0].getParameterCount() == 0, "one public constructor without arguments");
        Class<?>[] inside = BellOfLies.class.getDeclaredClasses();
        expect(inside.length <= 12, "some twelve classes");
        for (Class<?> c : inside) {
            expect(Modifier.isStatic(c.getModifiers()), c + " is static");
            for (Method m : c.getDeclaredMethods()) {
                expect(!names.contains(m.getName()), m + " bears no name of the face");
            }
        }
        System.out.println(wrong == 0 ? "the face is as due" : wrong + " things are not as due");
        if (wrong != 0) {
            System.exit(1);
        }
    }

    private static TreeSet<String> checkMethods() {
        TreeSet<String> found = new TreeSet<>();
        TreeSet<String> names = new TreeSet<>();
        for (Method m : BellOfLies.class.getDeclaredMethods()) {
            if (Modifier.isPublic(m.getModifiers())) {
                expect(!Modifier.isStatic(m.getModifiers()), m + " is not static");
                String row = Arrays.toString(m.getParameterTypes()).replace(" ", "");
                found.add(m.getReturnType() + " " + m.getName() + "(" + row.substring(1, row.length() - 1) + ")");
                names.add(m.getName());
            }
        }
        expect(found.equals(new TreeSet<>(Arrays.asList(FACE))), "the methods: " + found);
        for (Method m : BellOfLies.class.getDeclaredMethods()) {
            boolean isPublic = Modifier.isPublic(m.getModifiers());
            expect(isPublic || Modifier.isPrivate(m.getModifiers()), m + " is public or private");
            expect(isPublic || !names.contains(m.getName()), m + " bears no name of the face");
        }
        return names;
    }

    private static void checkFields() {
        TreeSet<String> found = new TreeSet<>();
        for (Field f : BellOfLies.class.getDeclaredFields()) {
            int mods = f.getModifiers();
            if (Modifier.isPublic(mods)) {
                expect(Modifier.isStatic(mods) && Modifier.isFinal(mods), f + " is a constant");
                found.add(f.getType() + " " + f.getName());
            } else {
                expect(Modifier.isPrivate(mods), f + " is private");
                expect(!Modifier.isStatic(mods) || Modifier.isFinal(mods), f + " is final, if static");
            }
        }
        expect(found.toString().equals("[int BAD, int FULL, int NONE, int STATE, long NO]"), "the constants: " + found);
        expect(BellOfLies.NONE == -1 && BellOfLies.BAD == -2 && BellOfLies.STATE == -3 && BellOfLies.FULL == -4
            && BellOfLies.NO == -4611686018427387904L, "the constants' values");
    }

    private static void expect(boolean holds, String what) {
        if (!holds) {
            wrong++;
            System.out.println("not as due: " + what);
        }
    }
}
