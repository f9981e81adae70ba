import java.lang.management.ManagementFactory;
import java.lang.reflect.Constructor;
import java.lang.reflect.Field;
import java.lang.reflect.Method;
import java.lang.reflect.Modifier;
import java.nio.file.Files;
import java.nio.file.Path;
import java.util.ArrayList;
import java.util.List;
import java.util.Set;
import java.util.TreeSet;
import java.util.regex.Matcher;
import java.util.regex.Pattern;

/** The public face, as the document has it; and that no call makes an object or throws. */
public final class RulesTest {
    private static int wrong;

    public static void main(String[] args) throws Exception {
        face(Files.readString(Path.of("../shared/DOC.md")));
        names();
        makesNothing();
        anyArguments();
        System.out.println(wrong == 0 ? "the rules are kept" : wrong + " rules broken");
        if (wrong != 0) {
            System.exit(1);
        }
    }

    private static void check(boolean kept, String what) {
        if (!kept) {
            wrong++;
            System.out.println("broken: " + what);
        }
    }

    private static void face(String document) {
        Class<?> type = WhatWasNearly.class;
        check(Modifier.isPublic(type.getModifiers()) && Modifier.isFinal(type.getModifiers()), "public and final");
        check(type.getPackageName().isEmpty(), "no package");
        Set<String> due = faceOf(document);
        check(due.size() == 54, "the document's face has 54 methods, with the constructor 55 promises");
        Set<String> seen = new TreeSet<>();
        for (Method m : type.getDeclaredMethods()) {
            if (!Modifier.isPrivate(m.getModifiers())) {
                check(Modifier.isPublic(m.getModifiers()) && !Modifier.isStatic(m.getModifiers()), m + " is public");
                seen.add(m.getReturnType() + " " + m.getName() + "(" + types(m.getParameterTypes()) + ")");
            }
        }
        check(seen.equals(due), "the methods of the face: " + seen);
        List<String> fields = new ArrayList<>();
        for (Field f : type.getDeclaredFields()) {
            if (!Modifier.isPrivate(f.getModifiers())) {
                fields.add(Modifier.toString(f.getModifiers()) + " " + f.getType() + " " + f.getName());
            }
        }
        check(fields.equals(List.of("public static final int NONE")), "the constants of the face: " + fields);
        Constructor<?>[] constructors = type.getDeclaredConstructors();
        check(constructors.length == 1 && Modifier.isPublic(constructors[0].getModifiers())
            && constructors[0].getParameterCount() == 0, "the constructor of the face");
    }

    private static String types(Class<?>[] types) {
        List<String> names = new ArrayList<>();
        for (Class<?> t : types) {
            names.add(t.getName());
        }
        return String.join(", ", names);
    }

    /** The methods that stand in the document under "The public face", without the names of parameters. */
    private static Set<String> faceOf(String document) {
        Set<String> methods = new TreeSet<>();
        String face = document.substring(document.indexOf("## The public face"), document.indexOf("## Terms"));
        Matcher m = Pattern.compile("public (int|boolean) (\\w+)\\(([^)]*)\\);").matcher(face);
        while (m.find()) {
            methods.add(m.group(1) + " " + m.group(2) + "(" + m.group(3).replaceAll(" \\w+(?=,|$)", "") + ")");
        }
        return methods;
    }

    /** Rule 1: no private method, in whatever class, bears the name of a public one. */
    private static void names() {
        Set<String> open = new TreeSet<>();
        for (Method m : WhatWasNearly.class.getDeclaredMethods()) {
            if (Modifier.isPublic(m.getModifiers())) {
                open.add(m.getName());
            }
        }
        List<Class<?>> all = new ArrayList<>(List.of(WhatWasNearly.class.getDeclaredClasses()));
        all.add(WhatWasNearly.class);
        for (Class<?> c : all) {
            for (Method m : c.getDeclaredMethods()) {
                check(Modifier.isPublic(m.getModifiers()) || !open.contains(m.getName()), m + " bears no name of the face");
            }
        }
    }

    /** All rows are made with the object: a run of many calls makes nothing more. */
    private static void makesNothing() {
        com.sun.management.ThreadMXBean threads = (com.sun.management.ThreadMXBean) ManagementFactory.getThreadMXBean();
        for (int warm = 0; warm < 3; warm++) {
            run(new WhatWasNearly());
        }
        WhatWasNearly x = new WhatWasNearly();
        long before = threads.getThreadAllocatedBytes(Thread.currentThread().getId());
        run(x);
        long made = threads.getThreadAllocatedBytes(Thread.currentThread().getId()) - before;
        // the counter's own calls may make a few objects; an object a call would be thousands of bytes
        check(made < 2000, "calls make no objects: " + made + " bytes");
    }

    private static final int[] LAW = {
        Due.four("event was 0 and was 1;", 0), Due.four("event was 0 and was 1;", 4), Due.four("event was 0 and was 1;", 8),
        Due.four("event was 0 and was 1;", 12), Due.four("event was 0 and was 1;", 16), Due.four("event was 0 and was 1;", 20),
    };

    private static void run(WhatWasNearly x) {
        for (int i = 0; i < 8; i++) {
            x.choice(i & 1, i);
            x.piece(1 << i, 0, 1, 0);
            x.room(0, 2);
            x.person(0, 1, i - 1);
            x.feed(LAW[0], LAW[1], LAW[2], LAW[3], LAW[4]);
            x.feed(LAW[5], 0, 0, 0, 0);
            x.end(22);
            x.text();
            x.by(i & 3);
            x.put(i, i);
            x.take(i);
            x.turn(i);
            x.years(i, 40);
            x.image();
        }
        for (int i = 0; i < 8; i++) {
            x.clash(255);
            x.most(255, true);
            x.ask(0);
            x.walk(0, 255, i);
            x.laidOut(63, i);
            x.least(0, true);
            x.halves();
            x.chance(0, true);
            x.nearly(0);
            x.sure(true);
            x.noMatter(0);
            x.unlike(0, 1);
            x.played(0);
            x.undo();
        }
        x.back();
    }

    /** No arguments whatever may make a call fail. */
    private static void anyArguments() throws Exception {
        int[] many = {Integer.MIN_VALUE, -1000, -2, -1, 0, 1, 2, 5, 7, 8, 9, 10, 31, 63, 255, 256, 1023, 1024, 9999,
            Integer.MAX_VALUE};
        int[] few = {Integer.MIN_VALUE, -1, 0, 1, 2, 255, 256, 1023, Integer.MAX_VALUE};
        for (int told = 0; told < 2; told++) {
            for (Method m : WhatWasNearly.class.getDeclaredMethods()) {
                if (!Modifier.isPublic(m.getModifiers())) {
                    continue;
                }
                int[] numbers = m.getParameterCount() > 3 ? few : many;
                WhatWasNearly x = new WhatWasNearly();
                if (told == 1) {
                    run(x);
                }
                int combinations = (int) Math.pow(numbers.length, m.getParameterCount());
                for (int c = 0; c < combinations; c++) {
                    Object[] arguments = new Object[m.getParameterCount()];
                    int rest = c;
                    for (int i = 0; i < arguments.length; i++) {
                        int number = numbers[rest % numbers.length];
                        rest /= numbers.length;
                        arguments[i] = m.getParameterTypes()[i] == boolean.class ? (Object) ((number & 1) == 1) : (Object) number;
                    }
                    m.invoke(x, arguments);
                }
            }
        }
    }
}
