import java.lang.reflect.InvocationTargetException;
import java.lang.reflect.Method;
import java.util.ArrayList;
import java.util.List;
import java.util.Random;
import java.util.TreeMap;

/** Random runs of calls, answered by the class and by Model alike. */
public final class ModelTest {
    private static final String[] QUESTIONS = {
        "count", "cell", "tree", "house", "miles", "seen", "firs", "fir", "spades", "felling", "ruin", "compare",
        "mildest", "round", "stop", "barns", "liars", "heights", "cheat", "ruined", "decades", "hollow", "sale",
        "shade", "dearest", "fault",
    };
    private static final String[] ACTS = {
        "years", "plant", "plant", "fell", "floor", "barn", "sell", "obey", "undo", "undo", "tell", "tell", "forget",
        "image", "restore",
    };
    private static final TreeMap<String, Method> REAL = methodsOf(HorizonDues.class);
    private static final TreeMap<String, Method> MEANT = methodsOf(Model.class);

    private final Random random;
    private final List<String> calls = new ArrayList<>();
    private final HorizonDues real = new HorizonDues();
    private final Model meant = new Model();
    private String text = "";
    private boolean same = true;

    private ModelTest(long seed) {
        random = new Random(seed);
    }

    public static void main(String[] args) {
        int runs = args.length > 0 ? Integer.parseInt(args[0]) : 300;
        long from = args.length > 1 ? Long.parseLong(args[1]) : 1;
        int wrong = 0;
        long many = 0;
        for (long seed = from; seed < from + runs && wrong < 5; seed++) {
            ModelTest test = new ModelTest(seed);
            if (seed % 4 == 0) {
                test.texts();
            } else {
                test.run(seed % 4 == 1 ? 480 : 120);
            }
            many += test.calls.size();
            if (!test.same) {
                wrong++;
                List<String> last = test.calls.subList(Math.max(0, test.calls.size() - 20), test.calls.size());
                System.out.println("seed " + seed + ": " + test.text + "\n  .. " + last);
            }
        }
        System.out.println("ModelTest: " + many + " answers in " + runs + " runs, " + wrong + " runs not as due");
        if (wrong != 0) {
            System.exit(1);
        }
    }

    private static TreeMap<String, Method> methodsOf(Class<?> type) {
        TreeMap<String, Method> all = new TreeMap<>();
        for (Method m : type.getDeclaredMethods()) {
            if (java.lang.reflect.Modifier.isPublic(m.getModifiers())) {
                all.put(m.getName(), m);
            }
        }
        return all;
    }

    private static String answer(Object on, Method method, Object[] args) {
        try {
            return String.valueOf(method.invoke(on, args));
        } catch (InvocationTargetException e) {
            return "throws." + e.getCause().getClass().getSimpleName();
        } catch (IllegalAccessException e) {
            throw new IllegalStateException(e);
        }
    }

    private String call(String name, int... numbers) {
        Object[] args = new Object[numbers.length];
        StringBuilder shown = new StringBuilder(name).append('(');
        for (int i = 0; i < args.length; i++) {
            args[i] = numbers[i];
            shown.append(i == 0 ? "" : ", ").append(numbers[i]);
        }
        String got = answer(real, REAL.get(name), args);
        String want = answer(meant, MEANT.get(name), args);
        shown.append(") ").append(got);
        if (!got.equals(want)) {
            same = false;
            shown.append(" DUE IS ").append(want);
        }
        calls.add(shown.toString());
        return want;
    }

    private int any(int from, int to) {
        return from + random.nextInt(to - from + 1);
    }

    private boolean one(int in) {
        return random.nextInt(in) == 0;
    }

    // ---- texts

    private String expr(int depth) {
        if (depth <= 0 || one(4)) {
            String[] parts = {"miles", "far", "high", "kind", "year", "houses", "floor", "miles", "far",
                String.valueOf(any(0, 5)), String.valueOf(any(0, 60)), String.valueOf(any(0, 9999))};
            return parts[random.nextInt(parts.length)];
        }
        String[] ops = {"+", "-", "*", "/", "+", "*", "<", "=", " and ", " or "};
        switch (random.nextInt(8)) {
            case 0: return " not " + expr(depth - 1);
            case 1: return "(" + expr(depth - 1) + ")";
            case 2: return "(" + expr(depth - 1) + ops[random.nextInt(10)] + expr(depth - 1) + ")";
            case 3: return "miles" + ops[random.nextInt(6)] + expr(depth - 1);
            default: return expr(depth - 1) + ops[random.nextInt(10)] + expr(depth - 1);
        }
    }

    /** A text that is nearly always fine but for expressions, which may hold what can't stand. */
    private String text() {
        StringBuilder s = new StringBuilder();
        int w = one(4) ? 8 : any(1, 8);
        int h = one(4) ? 8 : any(1, 8);
        if (w != 8 || h != 8) {
            s.append("land ").append(w).append(' ').append(h).append(';');
        }
        List<Integer> cells = new ArrayList<>();
        for (int i = 0; i < w * h; i++) {
            cells.add(i);
        }
        java.util.Collections.shuffle(cells, random);
        int at = 0;
        int houses = any(0, 6);
        for (int i = 0; i < houses && at < cells.size(); i++) {
            int c = cells.get(at++);
            String[] kinds = {"villa", "inn", "villa", "inn", "blind"};
            s.append(kinds[random.nextInt(5)]).append(' ').append(c % w).append(' ').append(c / w).append(' ')
                .append(any(0, one(3) ? 999 : one(2) ? 200 : 30)).append(';');
        }
        int trees = one(5) ? 12 : any(0, 6);
        for (int i = 0; i < trees && at < cells.size(); i++) {
            int c = cells.get(at++);
            int high = any(1, 9);
            s.append("tree ").append(c % w).append(' ').append(c / w).append(' ').append(high).append(' ')
                .append(any(high, 9)).append(';');
        }
        java.util.Collections.shuffle(cells, random);
        int told = any(0, 14);
        for (int i = 0; i < told && i < cells.size(); i++) {
            int c = cells.get(i);
            s.append("high ").append(c % w).append(' ').append(c / w).append(' ').append(any(0, one(2) ? 9 : 4)).append(';');
        }
        if (one(2)) {
            s.append("fog");
            int fogs = any(1, 8);
            for (int i = 0; i < fogs; i++) {
                s.append(' ').append(any(1, 9));
            }
            s.append(';');
        }
        int laws = any(0, 4);
        for (int i = 0; i < laws; i++) {
            s.append("tax ").append(expr(any(0, 4))).append(';');
        }
        return s.length() > 700 ? s.substring(0, 700) : s.toString();
    }

    private String told(String next) {
        text = next;
        for (int at = 0; at < text.length(); at += 20) {
            int[] five = new int[5];
            for (int i = 0; i < 20; i++) {
                five[i / 4] = five[i / 4] << 8 | (at + i < text.length() ? text.charAt(at + i) & 255 : 32);
            }
            call("feed", five);
        }
        String answer = call("duchy", text.length());
        call("fault");
        return answer;
    }

    private void texts() {
        String[] bits = {";", "(", ")", "+", "-", "*", "/", "<", "=", " ", "\n", "not ", "and ", "or ", "miles ", "tax ",
            "land ", "high ", "tree ", "villa ", "inn ", "blind ", "fog ", "1", "12345", "0", "9", "#", "\u00e9", "x", "Tax"};
        for (int i = 0; i < 12 && same; i++) {
            StringBuilder s = new StringBuilder(text());
            int changes = any(0, 2);
            for (int k = 0; k < changes && s.length() > 0; k++) {
                int from = random.nextInt(s.length());
                int to = Math.min(s.length(), from + any(0, 2));
                s.replace(from, to, one(3) ? "" : bits[random.nextInt(bits.length)]);
            }
            told(s.length() > 700 ? s.substring(0, 700) : s.toString());
            for (int what = 0; what <= 15; what++) {
                call("count", what);
            }
        }
    }

    // ---- runs

    private void run(int length) {
        String fine = "1";
        for (int i = 0; i < 6 && !fine.equals("0") && same; i++) {
            fine = told(text());
        }
        while (same && calls.size() < length) {
            if (one(150)) {
                told(text());
            }
            ask(one(3) ? ACTS[random.nextInt(ACTS.length)] : QUESTIONS[random.nextInt(QUESTIONS.length)]);
        }
    }

    private int house() {
        int houses = Integer.parseInt(answer(meant, MEANT.get("count"), new Object[] {3}));
        return one(25) || houses == 0 ? any(-1, 6) : random.nextInt(houses);
    }

    private int cell() {
        int w = Integer.parseInt(answer(meant, MEANT.get("count"), new Object[] {0}));
        int h = Integer.parseInt(answer(meant, MEANT.get("count"), new Object[] {1}));
        return one(30) ? any(-1, 64) : random.nextInt(w * h);
    }

    private int milesOf(int house) {
        String miles = answer(meant, MEANT.get("house"), new Object[] {house, 6});
        return one(2) || miles.startsWith("throws") ? any(-1, one(9) ? 101 : 30) : Integer.parseInt(miles);
    }

    private void ask(String name) {
        int house = house();
        int other = one(9) ? house : house();
        switch (name) {
            case "count" -> call(name, any(-1, 15));
            case "cell" -> call(name, cell(), any(one(9) ? -1 : 0, one(9) ? 5 : 4));
            case "tree" -> call(name, any(-1, 12), any(-1, 3));
            case "house" -> call(name, house, any(one(9) ? -1 : 0, one(9) ? 9 : 8));
            case "miles", "sell" -> call(name, house, one(20) ? any(-1, 8) : any(0, 7));
            case "seen", "sale" -> call(name, house);
            case "years" -> call(name, one(9) ? any(-1, 21) : any(1, one(3) ? 20 : 3));
            case "plant" -> call(name, cell(), one(9) ? any(-1, 11) : any(1, 9));
            case "fell", "felling" -> call(name, any(-1, one(5) ? 12 : 5));
            case "floor" -> call(name, house, any(-4, 4));
            case "barn" -> call(name, house, any(-1, 6));
            case "obey" -> call(name, any(-2, 4));
            case "firs" -> {
                call(name, one(9) ? any(-1, 64) : 1 << Math.max(0, house) | (one(2) ? 1 << Math.max(0, other) : 0),
                    one(20) ? any(-1, 1000) : any(0, 30));
                call("fir", 0);
                call("fir", 1);
            }
            case "fir" -> call(name, any(-1, 2));
            case "spades" -> call(name, house, one(9) ? any(-1, 1000) : any(0, 40));
            case "compare" -> call(name, any(-2, 4), any(-1, 2));
            case "mildest" -> call(name, one(9) ? any(-1, 10000) : any(0, 150));
            case "round" -> {
                call(name, cell());
                for (int i = 0; i < 7; i++) {
                    call("stop", i);
                }
            }
            case "stop" -> call(name, any(-1, 6));
            case "barns" -> call(name, house, other, any(one(9) ? 0 : 1, one(9) ? 6 : 5), one(9) ? any(-1, 100) : any(0, 3),
                one(9) ? any(-1, 2) : any(0, 1));
            case "tell" -> call(name, house, milesOf(house));
            case "heights" -> call(name, cell(), one(9) ? any(-1, 2) : any(0, 1));
            case "decades" -> call(name, random.nextInt(), one(9) ? any(-1, 41) : any(0, 12), one(9) ? any(-1, 3) : any(0, 2));
            case "hollow" -> call(name, one(9) ? any(-1, 2) : any(0, 1));
            case "shade" -> call(name, house, other);
            case "dearest" -> call(name, one(9) ? any(-1, 21) : any(1, 20));
            default -> call(name);
        }
    }
}
