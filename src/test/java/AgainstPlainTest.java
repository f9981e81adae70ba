import java.lang.reflect.Method;
import java.util.ArrayList;
import java.util.Arrays;
import java.util.LinkedHashMap;
import java.util.List;
import java.util.Map;
import java.util.Random;
import java.util.TreeMap;

/** Random runs of calls on the class and on Plain: every answer must be the same. */
public final class AgainstPlainTest {
    private static final int RUNS = Integer.getInteger("runs", 1200);
    private static final int CALLS = 300;

    private final Random random;
    private final WhatWasNearly quick = new WhatWasNearly();
    private final Plain plain = new Plain();
    private final List<String> log = new ArrayList<>();
    private int choices;

    private static final Map<String, Method> QUICK = methods(WhatWasNearly.class);
    private static final Map<String, Method> PLAIN = methods(Plain.class);
    private static final Map<String, TreeMap<Integer, Integer>> SEEN = new LinkedHashMap<>();

    private AgainstPlainTest(long seed) {
        random = new Random(seed);
    }

    public static void main(String[] args) throws Exception {
        if (!QUICK.keySet().equals(PLAIN.keySet())) {
            System.out.println("Plain has other methods than the class");
            System.exit(1);
        }
        long first = Long.getLong("seed", 1);
        for (long seed = first; seed < first + RUNS; seed++) {
            AgainstPlainTest test = new AgainstPlainTest(seed);
            if (!test.run()) {
                System.out.println("seed " + seed + ": the last of these is answered otherwise");
                test.log.forEach(System.out::println);
                System.exit(1);
            }
        }
        if (Boolean.getBoolean("seen")) {
            SEEN.forEach((name, answers) -> System.out.println(name + " " + answers.size() + " unlike answers " + head(answers)));
        }
        for (Map.Entry<String, TreeMap<Integer, Integer>> e : SEEN.entrySet()) {
            if (e.getValue().size() < 2) {
                System.out.println(e.getKey() + " was only ever answered " + e.getValue());
                System.exit(1);
            }
        }
        System.out.println(RUNS + " runs, all answers alike");
    }

    private static String head(TreeMap<Integer, Integer> answers) {
        String text = answers.toString();
        return text.length() > 150 ? text.substring(0, 150) + " .." : text;
    }

    private static Map<String, Method> methods(Class<?> type) {
        Map<String, Method> map = new TreeMap<>();
        for (Method m : type.getMethods()) {
            if (m.getDeclaringClass() == type) map.put(m.getName(), m);
        }
        return map;
    }

    private boolean run() throws Exception {
        int told = random.nextInt(9);
        for (int i = 0; i < told; i++) {
            if (!call("choice")) return false;
        }
        for (int i = 0; i < 6 && plain.about(5) < 2; i++) {
            if (!tellText()) return false;
        }
        if (!same("by", new Object[] {plain.about(5) - 1})) return false;
        for (int i = random.nextInt(16); i > 0; i--) {
            if (!call(pick("piece", "room", "person"))) return false;
        }
        // an image of something, or most that was told would be gone with the first way back
        if (random.nextInt(4) > 0 && !call("image")) return false;
        boolean restless = random.nextInt(6) == 0;
        for (int i = 0; i < CALLS; i++) {
            if (!(restless ? restlessStep() : step())) return false;
        }
        return true;
    }

    private boolean step() throws Exception {
        int kind = random.nextInt(100);
        if (kind < 2) return tellText();
        if (kind < 8) return call(pick("piece", "room", "person"));
        if (kind < 15) return call(pick("turn", "set", "put", "put", "put", "take"));
        if (kind == 15) return call(pick("years", "played", "undo", "by"));
        if (kind == 16) return call(pick("fact", "fact", "choice", "image"));
        List<String> names = new ArrayList<>(QUICK.keySet());
        return call(names.get(random.nextInt(names.size())));
    }

    /** Steps and ways back, far more of them than can be taken back. */
    private boolean restlessStep() throws Exception {
        int kind = random.nextInt(100);
        if (kind < 60) return call(pick("turn", "turn", "turn", "set", "put", "take", "years"));
        if (kind < 80) {
            String name = pick("undo", "undo", "undo", "image", "back");
            for (int i = random.nextInt(random.nextInt(8) == 0 ? 34 : 3); i > 0; i--) {
                if (!call("undo")) return false;
            }
            return call(name);
        }
        if (kind < 84) return call(pick("choice", "piece", "room"));
        return call(pick("was", "ofPiece", "ofRoom", "about", "ofChoice", "played", "cannot", "empty"));
    }

    private String pick(String... names) {
        return names[random.nextInt(names.length)];
    }

    private boolean call(String name) throws Exception {
        return same(name, arguments(name));
    }

    private boolean same(String name, Object[] arguments) throws Exception {
        Object got = QUICK.get(name).invoke(quick, arguments);
        Object want = PLAIN.get(name).invoke(plain, arguments);
        log.add(name + Arrays.toString(arguments) + " = " + got + ", plainly " + want);
        int answer = want instanceof Boolean b ? (b ? 1 : 0) : (Integer) want;
        SEEN.computeIfAbsent(name, n -> new TreeMap<>()).merge(answer, 1, Integer::sum);
        choices = plain.about(0);
        return got.equals(want);
    }

    private boolean tellText() throws Exception {
        String text = new TextMaker(random).text();
        if (!same("end", new Object[] {0})) return false;
        for (int i = 0; i < text.length(); i += 20) {
            Object[] words = new Object[5];
            for (int w = 0; w < 5; w++) words[w] = Due.four(text, i + 4 * w);
            if (!same("feed", words)) return false;
        }
        log.add("// " + text);
        if (!same("end", new Object[] {text.length()})) return false;
        return same("text", new Object[0]) && same("fault", new Object[] {0}) && same("fault", new Object[] {1});
    }

    private int upTo(int most) {
        if (random.nextInt(25) == 0) {
            int[] wild = {-1, -2, most + 1, Integer.MIN_VALUE, Integer.MAX_VALUE, 256, 1024, 10, 8, 32};
            return wild[random.nextInt(wild.length)];
        }
        return random.nextInt(most + 1);
    }

    private int few(int bits) {
        int set = 0;
        for (int i = 0; i < bits; i++) if (random.nextInt(bits) == 0) set |= 1 << i;
        return set;
    }

    private boolean yes() {
        return random.nextBoolean();
    }

    private Object[] arguments(String name) {
        int ways = (1 << choices) - 1;
        int pieces = (1 << plain.about(1)) - 1;
        return switch (name) {
            case "choice" -> of(upTo(1), upTo(10));
            case "piece" -> of(wildly(few(Math.max(choices, 1))), wildly(few(8)), wildly(few(6)), wildly(few(10)));
            case "room" -> of(upTo(ways), random.nextInt(4) == 0 ? upTo(9) : 1 + random.nextInt(2));
            case "person" -> of(upTo(random.nextInt(3) == 0 ? 10 : 3) - 1, upTo(random.nextInt(3) == 0 ? 10 : 3) - 1,
                upTo(Math.max(plain.about(3), 1)) - 1);
            case "feed" -> of(random.nextInt(), random.nextInt(), random.nextInt(), random.nextInt(), random.nextInt());
            case "end" -> of(upTo(300));
            case "fault" -> of(upTo(1));
            case "by", "played" -> of(upTo(Math.max(plain.about(5) - 1, 0)) - (random.nextInt(12) == 0 ? 1 : 0));
            case "turn", "leanOn" -> of(upTo(Math.max(choices - 1, 0)));
            case "set" -> of(upTo(5), upTo(ways));
            case "put" -> of(upTo(Math.max(plain.about(1) - 1, 0)), upTo(Math.max(plain.about(2) - 1, 0)));
            case "take", "agreeIn" -> of(upTo(Math.max(plain.about(1) - 1, 0)));
            case "years" -> of(upTo(9999), upTo(40));
            case "ofChoice" -> of(upTo(7), upTo(1));
            case "ofPiece" -> of(upTo(9), upTo(4));
            case "ofRoom" -> of(upTo(5), upTo(2));
            case "agrees" -> of(upTo(Math.max(plain.about(1) - 1, 0)), upTo(ways));
            case "follows", "mayBe", "lookedFor", "alike" -> of(upTo(ways));
            case "most" -> new Object[] {upTo(pieces), yes()};
            case "clash" -> of(upTo(pieces));
            case "fact" -> {
                boolean event = yes();
                yield new Object[] {random.nextInt(6) == 0 ? -1 : upTo(event ? 3 : Math.max(choices - 1, 0)), event, yes()};
            }
            case "left" -> of(yes() ? -1 : upTo(ways));
            case "sure" -> new Object[] {yes()};
            case "ask", "noMatter", "nearly" -> of(random.nextInt(4) == 0 ? upTo(9) : upTo(2));
            case "least", "chance" -> new Object[] {random.nextInt(4) == 0 ? upTo(9) : upTo(2), yes()};
            case "turnsIt" -> new Object[] {upTo(7), upTo(4), yes()};
            case "chanceOf" -> new Object[] {upTo(ways), yes()};
            case "elders", "thereIn" -> of(upTo(Math.max(plain.about(3) - 1, 0)));
            case "there" -> of(upTo(Math.max(plain.about(3) - 1, 0)), upTo(ways));
            case "walk" -> of(upTo(ways), upTo(ways), random.nextInt(3) == 0 ? -1 : upTo(6) - 1);
            case "differ" -> of(upTo(3), upTo(3), upTo(ways));
            case "unlike" -> of(upTo(3), upTo(3));
            case "laidOut" -> {
                int set = upTo(pieces);
                // most sets are too large else
                set = random.nextBoolean() ? set & random.nextInt(1024) : set;
                yield of(set, random.nextInt(4) == 0 ? -1 : random.nextInt(8) == 0 ? upTo(9) : lowBit(set));
            }
            case "about" -> of(upTo(10));
            default -> new Object[0];
        };
    }

    /** A member of a set, any of them alike. */
    private int lowBit(int set) {
        int rest = set;
        for (int i = random.nextInt(6); i > 0 && Integer.bitCount(rest) > 1; i--) rest &= rest - 1;
        return rest == 0 ? 0 : Integer.numberOfTrailingZeros(rest);
    }

    private int wildly(int set) {
        return random.nextInt(40) == 0 ? upTo(1023) : set;
    }

    private static Object[] of(Integer... numbers) {
        return numbers;
    }

    /** Texts by the grammar, some of them damaged. */
    private static final class TextMaker {
        private final Random random;
        private int events;
        private boolean may;

        TextMaker(Random random) {
            this.random = random;
        }

        String text() {
            StringBuilder text = new StringBuilder();
            int clauses = 1 + random.nextInt(random.nextInt(10) == 0 ? 30 : 9);
            for (int i = 0; i < clauses; i++) {
                String clause = clause();
                if (text.length() + clause.length() > 300) break;
                text.append(clause);
            }
            return random.nextInt(3) == 0 ? damaged(text.toString()) : text.toString();
        }

        private String damaged(String text) {
            String signs = "()-,;<>=#+*/ 0123456789notwascamecount\n@A~\t";
            StringBuilder s = new StringBuilder(text);
            int times = 1 + random.nextInt(2);
            for (int i = 0; i < times && s.length() > 0; i++) {
                int at = random.nextInt(s.length());
                switch (random.nextInt(4)) {
                    case 0 -> s.deleteCharAt(at);
                    case 1 -> s.setCharAt(at, signs.charAt(random.nextInt(signs.length())));
                    case 2 -> s.insert(at, signs.charAt(random.nextInt(signs.length())));
                    default -> s.setLength(at);
                }
            }
            if (s.length() > 300) s.setLength(300);
            return s.toString();
        }

        private String blank() {
            int r = random.nextInt(12);
            return r == 0 ? "\n" : r == 1 ? "  " : " ";
        }

        private int number(int most) {
            return random.nextInt(60) == 0 ? most + 1 : random.nextInt(most + 1);
        }

        private String clause() {
            int r = random.nextInt(20);
            if (r < 11) {
                String law = "event" + blank() + whole() + ";";
                events++;
                return law;
            }
            if (r < 14) {
                if (may && random.nextInt(4) > 0) return "turn " + number(7) + ";";
                may = true;
                // most ways should be, or little is left to ask of
                return "may" + blank() + (random.nextBoolean() ? "way # " + number(255) + " or " : "") + whole() + ";";
            }
            return switch (r) {
                case 14 -> "choice " + number(1) + " odds " + number(10) + ";";
                case 15 -> "room " + number(random.nextBoolean() ? 3 : 255) + " for " + (1 + number(8)) + ";";
                case 16 -> "turn " + number(7) + blank() + ";";
                case 17 -> "set " + number(5) + " to " + number(random.nextBoolean() ? 3 : 255) + ";";
                case 18 -> "put " + number(9) + " in " + number(5) + ";";
                default -> "take " + number(9) + ";";
            };
        }

        private String whole() {
            String law = either(0);
            while (random.nextInt(5) == 0) law += " so " + either(0);
            return law;
        }

        private String either(int depth) {
            String law = both(depth);
            while (random.nextInt(4) == 0) law += " or" + blank() + both(depth);
            return law;
        }

        private String both(int depth) {
            String law = asked(depth);
            while (random.nextInt(4) == 0) law += blank() + "and " + asked(depth);
            return law;
        }

        private String asked(int depth) {
            int r = random.nextInt(12);
            if (r < 5) return "was " + number(random.nextBoolean() ? 3 : 7);
            if (r < 7 && events > 0) return "came " + number(random.nextInt(30) == 0 ? 9 : events - 1);
            if (r == 7) return "not " + asked(depth + 1);
            String[] signs = {"<", "<=", ">", ">=", "=", "#"};
            return sum(depth) + signs[random.nextInt(6)] + sum(depth);
        }

        private String sum(int depth) {
            String law = product(depth);
            while (random.nextInt(4) == 0) law += (random.nextBoolean() ? "+" : " - ") + product(depth);
            return law;
        }

        private String product(int depth) {
            String law = one(depth);
            while (random.nextInt(5) == 0) law += (random.nextBoolean() ? "*" : "/") + one(depth);
            return law;
        }

        private String one(int depth) {
            int r = random.nextInt(depth > 9 ? 8 : 14);
            if (r < 3) return String.valueOf(number(random.nextInt(4) == 0 ? 9999 : 8));
            if (r < 5) return "way";
            if (r < 7) return "many";
            if (r == 7) return "done";
            if (r == 8) return "(" + sum(depth + 1) + ")";
            if (r == 9) return "-" + one(depth + 1);
            if (r == 10) {
                String deep = "";
                int more = random.nextInt(random.nextInt(12) == 0 ? 10 : 4);
                for (int i = 0; i < more; i++) deep += "-";
                return deep + "many";
            }
            String law = "count(" + either(depth + 2);
            for (int i = random.nextInt(random.nextInt(9) == 0 ? 7 : 3); i > 0; i--) law += "," + either(depth + 2);
            return law + ")";
        }
    }
}
