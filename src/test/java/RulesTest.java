import java.lang.management.ManagementFactory;
import java.lang.reflect.Constructor;
import java.lang.reflect.Field;
import java.lang.reflect.Method;
import java.lang.reflect.Modifier;
import java.nio.file.Files;
import java.nio.file.Path;
import java.util.ArrayList;
import java.util.List;
import java.util.Set;
import java.util.TreeSet;
import java.util.regex.Matcher;
import java.util.regex.Pattern;

/** The public face, and those rules of LANGUAGE.md that reflection and a look at the source can tell. */
public final class RulesTest {
    private static final String[] FACE = {
        "int choice(int, int)", "int piece(int, int, int, int)", "int room(int, int)", "int person(int, int, int)",
        "int feed(int, int, int, int, int)", "int end(int)", "int text()", "int fault(int)", "boolean by(int)",
        "int turn(int)", "boolean set(int, int)", "boolean put(int, int)", "int take(int)", "int played(int)",
        "int years(int, int)", "int undo()", "int ofChoice(int, int)", "int ofPiece(int, int)", "int ofRoom(int, int)",
        "int was()", "int agrees(int, int)", "int follows(int)", "int mayBe(int)", "int cannot()", "int most(int, boolean)",
        "int clash(int)", "int fact(int, boolean, boolean)", "int left(int)", "int sure(boolean)", "int ask(int)",
        "int halves()", "int leanOn(int)", "int agreeIn(int)", "int elders(int)", "int nextDoor()", "int empty()",
        "int least(int, boolean)", "int noMatter(int)", "int turnsIt(int, int, boolean)", "int there(int, int)",
        "int thereIn(int)", "int lookedFor(int)", "int walk(int, int, int)", "int differ(int, int, int)",
        "int unlike(int, int)", "int gifts()", "int chance(int, boolean)", "int chanceOf(int, boolean)", "int nearly(int)",
        "int laidOut(int, int)", "int alike(int)", "int image()", "int back()", "int about(int)",
    };
    private static final String[] FORBIDDEN = {
        "throw", "throws", "try", "catch", "finally", "synchronized", "assert", "goto", "native", "transient", "volatile",
        "System\\.(?!arraycopy)\\w+", "Random", "Thread", "Object", "hashCode", "toString\\(", "\\w+Exact", "->", "::", "\\bvar\\b",
        "protected", "yield", "sealed", "permits", "static\\s*\\{", "this\\s*\\(", "super\\s*\\(", "@\\w+",
    };

    private static int wrong;

    public static void main(String[] args) throws Exception {
        face();
        classes();
        source(Files.readString(Path.of(args.length > 0 ? args[0] : "src/main/java/WhatWasNearly.java")));
        makesNothing();
        anyArguments();
        System.out.println(wrong == 0 ? "the rules are kept" : wrong + " rules broken");
        if (wrong != 0) {
            System.exit(1);
        }
    }

    private static void check(boolean kept, String what) {
        if (!kept) {
            wrong++;
            System.out.println("broken: " + what);
        }
    }

    private static void face() {
        Class<?> type = WhatWasNearly.class;
        check(Modifier.isPublic(type.getModifiers()) && Modifier.isFinal(type.getModifiers()), "public and final");
        check(type.getPackageName().isEmpty(), "no package");
        Set<String> due = new TreeSet<>(List.of(FACE));
        Set<String> seen = new TreeSet<>();
        for (Method m : type.getDeclaredMethods()) {
            if (!Modifier.isPrivate(m.getModifiers())) {
                check(Modifier.isPublic(m.getModifiers()) && !Modifier.isStatic(m.getModifiers()), m + " is public");
                seen.add(m.getReturnType() + " " + m.getName() + "(" + types(m.getParameterTypes()) + ")");
            }
        }
        check(seen.equals(due), "the methods of the face: " + seen);
        List<String> fields = new ArrayList<>();
        for (Field f : type.getDeclaredFields()) {
            if (!Modifier.isPrivate(f.getModifiers())) {
                fields.add(Modifier.toString(f.getModifiers()) + " " + f.getType() + " " + f.getName());
            }
        }
        check(fields.equals(List.of("public static final int NONE")), "the constants of the face: " + fields);
        Constructor<?>[] constructors = type.getDeclaredConstructors();
        check(constructors.length == 1 && Modifier.isPublic(constructors[0].getModifiers())
            && constructors[0].getParameterCount() == 0, "the constructor of the face");
    }

    private static String types(Class<?>[] types) {
        List<String> names = new ArrayList<>();
        for (Class<?> t : types) {
            names.add(t.getName());
        }
        return String.join(", ", names);
    }

    private static void classes() {
        List<Class<?>> all = new ArrayList<>(List.of(WhatWasNearly.class.getDeclaredClasses()));
        check(all.size() <= 11, "at most some twelve classes");
        Set<String> open = new TreeSet<>();
        for (Method m : WhatWasNearly.class.getDeclaredMethods()) {
            if (Modifier.isPublic(m.getModifiers())) {
                open.add(m.getName());
            }
        }
        for (Class<?> c : all) {
            check(Modifier.isStatic(c.getModifiers()) && !Modifier.isPublic(c.getModifiers())
                && !Modifier.isProtected(c.getModifiers()), c + " is static and not public");
            check(c.getDeclaredClasses().length == 0, c + " has no class of its own");
        }
        all.add(WhatWasNearly.class);
        for (Class<?> c : all) {
            int fields = 0;
            for (Field f : c.getDeclaredFields()) {
                if (!Modifier.isStatic(f.getModifiers())) {
                    fields++;
                } else {
                    check(Modifier.isFinal(f.getModifiers()) && f.getType().isPrimitive(), f + " is a constant");
                }
            }
            check(fields <= 20, c + " has at most some twenty fields");
            for (Method m : c.getDeclaredMethods()) {
                check(m.getParameterCount() <= 7, m + " has at most seven parameters");
                check(Modifier.isPublic(m.getModifiers()) || !open.contains(m.getName()), m + " bears no name of the face");
            }
        }
    }

    private static void source(String source) {
        String code = source.replaceAll("(?s)/\\*.*?\\*/", " ").replaceAll("//[^\n]*", " ");
        String bare = code.replaceAll("\"[^\"]*\"", "\"\"").replaceAll("'\\\\?.'", "' '");
        for (String word : FORBIDDEN) {
            Matcher m = Pattern.compile(word.matches("\\w+") ? "\\b" + word + "\\b" : word).matcher(bare);
            check(!m.find(), "no " + word + " in the source");
        }
        Matcher imports = Pattern.compile("import ([^;]+);").matcher(bare);
        while (imports.find()) {
            check(imports.group(1).equals("java.util.Arrays"), "import " + imports.group(1));
        }
        check(!bare.contains("\"\" +") && !bare.contains("+ \"\""), "no texts joined by +");
        for (int i = 0; i < source.length(); i++) {
            check(source.charAt(i) < 127, "signs of the source at " + i);
        }
        methodsAreShort(source);
    }

    private static void methodsAreShort(String source) {
        String[] lines = source.split("\n");
        int start = -1;
        String end = "";
        for (int i = 0; i < lines.length; i++) {
            Matcher m = Pattern.compile("^( {4}| {8})(?!\\s)[^=;/*]*\\([^=;]*\\) \\{$").matcher(lines[i]);
            if (start < 0 && m.matches()) {
                start = i;
                end = m.group(1) + "}";
            } else if (start >= 0 && lines[i].equals(end)) {
                check(i - start < 60, "the method at line " + (start + 1) + " is short");
                start = -1;
            }
        }
    }

    /** All rows are made with the object: a run of many calls makes nothing more. */
    private static void makesNothing() {
        com.sun.management.ThreadMXBean threads = (com.sun.management.ThreadMXBean) ManagementFactory.getThreadMXBean();
        for (int warm = 0; warm < 3; warm++) {
            run(new WhatWasNearly());
        }
        WhatWasNearly x = new WhatWasNearly();
        long before = threads.getThreadAllocatedBytes(Thread.currentThread().getId());
        run(x);
        long made = threads.getThreadAllocatedBytes(Thread.currentThread().getId()) - before;
        // the counter's own calls may make a few objects; an object a call would be thousands of bytes
        check(made < 2000, "calls make no objects: " + made + " bytes");
    }

    private static final int[] LAW = {
        Due.four("event was 0 and was 1;", 0), Due.four("event was 0 and was 1;", 4), Due.four("event was 0 and was 1;", 8),
        Due.four("event was 0 and was 1;", 12), Due.four("event was 0 and was 1;", 16), Due.four("event was 0 and was 1;", 20),
    };

    private static void run(WhatWasNearly x) {
        for (int i = 0; i < 8; i++) {
            x.choice(i & 1, i);
            x.piece(1 << i, 0, 1, 0);
            x.room(0, 2);
            x.person(0, 1, i - 1);
            x.feed(LAW[0], LAW[1], LAW[2], LAW[3], LAW[4]);
            x.feed(LAW[5], 0, 0, 0, 0);
            x.end(22);
            x.text();
            x.by(i & 3);
            x.put(i, i);
            x.take(i);
            x.turn(i);
            x.years(i, 40);
            x.image();
        }
        for (int i = 0; i < 8; i++) {
            x.clash(255);
            x.most(255, true);
            x.ask(0);
            x.walk(0, 255, i);
            x.laidOut(63, i);
            x.least(0, true);
            x.halves();
            x.chance(0, true);
            x.nearly(0);
            x.sure(true);
            x.noMatter(0);
            x.unlike(0, 1);
            x.played(0);
            x.undo();
        }
        x.back();
    }

    /** No arguments whatever may make a call fail. */
    private static void anyArguments() throws Exception {
        int[] numbers = {Integer.MIN_VALUE, -1000, -2, -1, 0, 1, 2, 5, 7, 8, 9, 10, 31, 63, 255, 256, 1023, 1024, 9999,
            Integer.MAX_VALUE};
        for (int told = 0; told < 2; told++) {
            for (Method m : WhatWasNearly.class.getDeclaredMethods()) {
                if (!Modifier.isPublic(m.getModifiers()) || m.getParameterCount() > 3) {
                    continue;
                }
                WhatWasNearly x = new WhatWasNearly();
                if (told == 1) {
                    run(x);
                }
                int combinations = (int) Math.pow(numbers.length, m.getParameterCount());
                for (int c = 0; c < combinations; c++) {
                    Object[] arguments = new Object[m.getParameterCount()];
                    int rest = c;
                    for (int i = 0; i < arguments.length; i++) {
                        int number = numbers[rest % numbers.length];
                        rest /= numbers.length;
                        arguments[i] = m.getParameterTypes()[i] == boolean.class ? (Object) ((number & 1) == 1) : (Object) number;
                    }
                    m.invoke(x, arguments);
                }
            }
        }
    }
}
