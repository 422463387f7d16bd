import java.lang.reflect.InvocationTargetException;
import java.lang.reflect.Method;
import java.lang.reflect.Modifier;
import java.util.ArrayList;
import java.util.Comparator;
import java.util.List;
import java.util.Random;

/** Random runs of calls on a SeasonWalks and a PlainWalks: each call must answer, or throw, alike. */
public final class RandomTests {
    private static final int RUNS = 300;
    private static final int MOST_CALLS = 512;
    // A text takes 23 calls, the counts at the end 15, and the fault is asked for in between.
    private static final int LONGEST = 46;

    private final Due due;
    private final Random random;
    private final SeasonWalks x = new SeasonWalks();
    private final PlainWalks plain = new PlainWalks();
    private final List<Method> methods;
    private final StringBuilder told = new StringBuilder();
    private int calls;

    private RandomTests(Due due, long seed) {
        this.due = due;
        this.random = new Random(seed);
        this.methods = faceOf();
    }

    public static void main(String[] args) throws ReflectiveOperationException {
        Due due = new Due("random runs");
        long first = args.length > 1 ? Long.parseLong(args[1]) : 1;
        long runs = args.length > 2 ? Long.parseLong(args[2]) : RUNS;
        for (long seed = first; seed < first + runs && due.isClean(); seed++) {
            new RandomTests(due, seed).run();
        }
        due.close();
    }

    private static List<Method> faceOf() {
        List<Method> methods = new ArrayList<>();
        for (Method method : SeasonWalks.class.getDeclaredMethods()) {
            if (Modifier.isPublic(method.getModifiers())) {
                methods.add(method);
            }
        }
        methods.sort(Comparator.comparing(Method::getName));
        return methods;
    }

    private void run() throws ReflectiveOperationException {
        if (random.nextInt(3) == 0) {
            fill();
        }
        while (calls < MOST_CALLS - LONGEST && due.isClean()) {
            int chance = random.nextInt(100);
            if (chance < 6) {
                feed(random.nextInt(9) == 0 ? broken(cloisterText()) : cloisterText());
                call("cloister");
            } else if (chance < 12) {
                feed(random.nextInt(4) == 0 ? broken(lawText()) : lawText());
                call("law");
            } else if (chance < 22) {
                feed(rows());
                Method method = methods.get(random.nextInt(methods.size()));
                call(pick("road", "seen", "ask", "rule", "tells", "road", method.getName()));
            } else if (chance < 40) {
                call(pick("hours", "hours", "cross", "bell", "mood", "change", "pace", "fill", "find", "undo"));
            } else if (chance < 41) {
                call(pick("back", "image", "end", "feed"));
            } else {
                Method method = methods.get(random.nextInt(methods.size()));
                if (!method.getName().equals("back") && !method.getName().equals("undo")) {
                    call(method.getName());
                }
            }
        }
        for (int what = -1; what < 14; what++) {
            call("count", what);
        }
    }

    /** A full cloister of seven monks, some hours old. */
    private void fill() throws ReflectiveOperationException {
        while (plain.count(0) < 7 && plain.count(1) < 12) {
            feed(monkLine());
            call("cloister");
        }
        call("hours", 1 + random.nextInt(72));
    }

    private String pick(String... words) {
        return words[random.nextInt(words.length)];
    }

    private void call(String name) throws ReflectiveOperationException {
        Method method = methods.stream().filter(m -> m.getName().equals(name)).findFirst().get();
        Object[] given = new Object[method.getParameterCount()];
        for (int i = 0; i < given.length; i++) {
            given[i] = method.getParameterTypes()[i] == boolean.class ? (Object) random.nextBoolean()
                    : (Object) number(name, i);
        }
        call(name, given);
    }

    private int number(String name, int place) {
        int chance = random.nextInt(100);
        if (chance < 2) {
            return random.nextInt();
        }
        if (chance < 4) {
            return -1;
        }
        switch (name + place) {
            case "hours0": case "trial0": case "span0": case "ahead1":
                return random.nextInt(3) == 0 ? random.nextInt(75) : random.nextInt(13);
            case "bell0": case "season0": case "far0": case "far1": case "when1": case "road0":
                return random.nextInt(chance < 8 ? 18 : 16);
            case "share1": return random.nextInt(chance < 50 ? 30 : 1005);
            case "fill1": return random.nextInt(103);
            case "round0": return random.nextInt(6);
            case "seed0": return random.nextInt();
            case "chapter0": return random.nextInt(256);
            case "end0": return random.nextInt(60);
            case "count0": return random.nextInt(14);
            case "monk1": return random.nextInt(11);
            case "pace1": return random.nextInt(10);
            case "serves0": return random.nextInt(13);
            case "lates0": return random.nextInt(11);
            case "odds0": case "odds1": return random.nextInt(8);
            case "log0": return random.nextInt(62);
            case "log1": case "mood0": return random.nextInt(6);
            case "ahead2": return random.nextInt(4);
            case "store0": case "fill0": case "feeds0": case "share0": return random.nextInt(5);
            case "feed0": case "feed1": case "feed2": case "feed3": case "feed4": return random.nextInt();
            default: return random.nextInt(chance < 20 ? 8 : Math.max(1, plain.count(0)));
        }
    }

    private void call(String name, Object... given) throws ReflectiveOperationException {
        Method method = methods.stream().filter(m -> m.getName().equals(name)).findFirst().get();
        Object got = answer(method, x, given);
        Object want = answer(PlainWalks.class.getMethod(name, method.getParameterTypes()), plain, given);
        StringBuilder words = new StringBuilder(name).append('(');
        for (Object one : given) {
            words.append(words.charAt(words.length() - 1) == '(' ? "" : ", ").append(one);
        }
        words.append(')');
        told.append(words).append(" = ").append(want).append('\n');
        calls++;
        boolean clean = due.isClean();
        due.is(words.toString(), got, want);
        if (clean && !due.isClean()) {
            System.out.println(told);
        }
        if (calls % 7 == 0) {
            calls++;
            Object fault = plain.fault();
            due.is("fault", x.fault(), fault);
        }
    }

    private static Object answer(Method method, Object of, Object[] given) throws IllegalAccessException {
        try {
            Object answer = method.invoke(of, given);
            return answer == null ? "nothing" : answer;
        } catch (InvocationTargetException thrown) {
            return thrown.getCause().getClass().getName();
        }
    }

    private void feed(String text) throws ReflectiveOperationException {
        call("end", 0);
        for (int from = 0; from < text.length(); from += 20) {
            Object[] given = new Object[5];
            for (int i = 0; i < 5; i++) {
                int number = 0;
                for (int at = from + 4 * i; at < from + 4 * i + 4; at++) {
                    number = number << 8 | (at < text.length() ? text.charAt(at) & 255 : 0);
                }
                given[i] = number;
            }
            call("feed", given);
        }
        call("end", Math.min(400, text.length()));
    }

    private String rows() {
        StringBuilder rows = new StringBuilder();
        int size = random.nextInt(random.nextInt(5) == 0 ? 44 : 10);
        boolean moods = random.nextBoolean();
        int most = moods ? 5 : 2;
        int begin = random.nextInt(16);
        int stride = random.nextInt(9);
        for (int i = 0; i < size; i++) {
            int hour = random.nextInt(random.nextInt(30) == 0 ? 26 : 16);
            int answer = moods ? (begin * hour + stride) % 5
                    : (begin + hour * stride) % 16 == plain.count(5) ? 1 : 0;
            rows.append((char) hour);
            if (random.nextInt(12) > 0 && i + 1 < size) {
                rows.append((char) (random.nextInt(12) == 0 ? random.nextInt(most + 1) : answer));
                i++;
            }
        }
        return rows.toString();
    }

    private String gap() {
        return random.nextInt(12) == 0 ? "  " : " ";
    }

    private String cloisterText() {
        StringBuilder text = new StringBuilder(random.nextInt(9) == 0 ? " " : "");
        int lines = random.nextInt(20) == 0 ? random.nextInt(17) : random.nextInt(7);
        for (int i = 0; i < lines; i++) {
            text.append(i == 0 ? "" : random.nextInt(9) == 0 ? " ; " : ";").append(cloisterLine());
        }
        return text.toString();
    }

    private String cloisterLine() {
        switch (random.nextInt(12)) {
            case 0: return "bell" + gap() + random.nextInt(16);
            case 1: return "mood" + gap() + pick("spring", "summer", "autumn", "winter", "own", "own");
            case 2: return "fickle" + gap() + random.nextInt(101);
            case 3: return "grass" + gap() + random.nextInt(21);
            case 4: case 5: return "store" + gap() + pick("spring", "summer", "autumn", "winter") + gap()
                    + random.nextInt(pick("a", "b").equals("a") ? 20 : 1000);
            case 6: return "hour" + gap() + random.nextInt(24);
            case 7: return "day" + gap() + random.nextInt(1000);
            default: return monkLine();
        }
    }

    private String monkLine() {
        int stall = random.nextInt(12);
        for (int tries = 0; tries < 12 && random.nextInt(40) > 0; tries++) {
            int taken = stall;
            boolean free = true;
            for (int m = 0; m < plain.count(0); m++) {
                free &= plain.monk(m, 2) != taken;
            }
            if (free) {
                break;
            }
            stall = (stall + 1) % 12;
        }
        StringBuilder line = new StringBuilder("monk").append(gap()).append("at").append(gap())
                .append(random.nextInt(16)).append(gap()).append("stall").append(gap()).append(stall);
        if (random.nextInt(3) > 0) {
            line.append(gap()).append("pace").append(gap()).append(random.nextInt(9));
        }
        if (random.nextInt(5) > 0) {
            StringBuilder likes = new StringBuilder();
            int most = random.nextInt(2) == 0 ? 12 : 5;
            for (int i = random.nextInt(5); i >= 0; i--) {
                char letter = (char) ('a' + random.nextInt(most));
                if (likes.indexOf("" + letter) < 0 || random.nextInt(60) == 0) {
                    likes.append(letter);
                }
            }
            line.append(gap()).append("likes").append(gap()).append(likes);
        }
        return line.toString();
    }

    private String lawText() {
        StringBuilder text = new StringBuilder(random.nextInt(9) == 0 ? " " : "");
        int lines = random.nextInt(20) == 0 ? random.nextInt(15) : random.nextInt(6);
        for (int i = 0; i < lines; i++) {
            text.append(i == 0 ? "" : random.nextInt(9) == 0 ? " ; " : ";");
            String kind = random.nextInt(5) == 0 ? "keep" : pick("slow", "haste") + gap() + random.nextInt(10);
            text.append(kind);
            if (random.nextInt(5) > 0) {
                text.append(gap()).append("if").append(gap()).append(condition(3));
            }
        }
        return text.length() > 400 ? "haste 1 if hungry" : text.toString();
    }

    private String condition(int deep) {
        StringBuilder text = new StringBuilder(atom(deep));
        while (random.nextInt(3) == 0) {
            text.append(gap()).append(pick("and", "or")).append(gap()).append(atom(deep));
        }
        return text.toString();
    }

    private String atom(int deep) {
        if (deep > 0 && random.nextInt(4) == 0) {
            return "(" + condition(deep - 1) + ")";
        }
        if (random.nextInt(6) == 0) {
            return "not" + gap() + atom(deep);
        }
        if (random.nextInt(4) == 0) {
            return pick("corner", "hungry");
        }
        return sum() + pick("<", ">", " < ", " >") + sum();
    }

    private String sum() {
        StringBuilder text = new StringBuilder(part());
        while (random.nextInt(4) == 0) {
            text.append(pick("+", " + ")).append(part());
        }
        return text.toString();
    }

    private String part() {
        return random.nextInt(2) == 0 ? "" + random.nextInt(random.nextInt(4) == 0 ? 1000 : 14)
                : pick("monk", "flag", "pace", "season", "late", "hour", "stall");
    }

    /** A text with a byte more, less or other, or a thing doubled. */
    private String broken(String text) {
        StringBuilder all = new StringBuilder(text);
        int at = random.nextInt(text.length() + 1);
        switch (random.nextInt(5)) {
            case 0:
                all.insert(at, pick(" ", ";", "(", ")", "0", "9", "a", "z", "<", "+", "not ", " or ", "\u00e9"));
                break;
            case 1:
                all.setLength(at);
                break;
            case 2:
                all.insert(at, text.substring(0, at));
                break;
            case 3:
                all.insert(at, "not ".repeat(random.nextInt(9))).insert(at, "(".repeat(random.nextInt(8)));
                break;
            default:
                if (at < text.length()) {
                    all.deleteCharAt(at);
                }
                break;
        }
        return all.length() > 400 ? all.substring(0, 400) : all.toString();
    }
}
