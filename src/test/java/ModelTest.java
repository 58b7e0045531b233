import java.lang.reflect.InvocationTargetException;
import java.lang.reflect.Method;
import java.util.ArrayList;
import java.util.HashMap;
import java.util.List;
import java.util.Map;
import java.util.Random;

/** Runs of calls by chance: SeenToMove and Model must answer alike. An argument: how many runs. */
public final class ModelTest {
    private static final int CALLS = 512;
    private static final Map<String, Method> OF_CLASS = methods(SeenToMove.class);
    private static final Map<String, Method> OF_MODEL = methods(Model.class);
    private static final Map<String, Map<String, Integer>> ANSWERED = new HashMap<>();

    private final SeenToMove program = new SeenToMove();
    private final Model model = new Model();
    private final List<String> log = new ArrayList<>();
    private final Random random;
    private final RandomTexts texts;
    private boolean wrong;
    private int calls;

    private ModelTest(long seed) {
        random = new Random(seed);
        texts = new RandomTexts(random);
    }

    private static Map<String, Method> methods(Class<?> c) {
        Map<String, Method> m = new HashMap<>();
        for (Method x : c.getDeclaredMethods()) {
            if (java.lang.reflect.Modifier.isPublic(x.getModifiers())) {
                m.put(x.getName(), x);
            }
        }
        return m;
    }

    public static void main(String[] args) {
        int runs = args.length > 0 ? Integer.parseInt(args[0]) : 1500;
        long first = args.length > 1 ? Long.parseLong(args[1]) : 0;
        int bad = 0;
        for (long seed = first; seed < first + runs && bad < 3; seed++) {
            ModelTest t = new ModelTest(seed);
            t.run();
            if (t.wrong) {
                bad++;
                System.out.println("seed " + seed + ":");
                List<String> log = t.log.subList(Math.max(0, t.log.size() - 60), t.log.size());
                log.forEach(l -> System.out.println("  " + l));
            }
        }
        for (String name : OF_CLASS.keySet()) {
            if (!ANSWERED.containsKey(name)) {
                bad++;
                System.out.println(name + " was never called");
            }
        }
        if (args.length > 2) {
            ANSWERED.forEach((n, m) -> System.out.println(n + " " + (m.size() < 60 ? m : m.size())));
        }
        System.out.println(bad == 0 ? "all runs answered alike" : "some runs did not answer alike");
        if (bad != 0) {
            System.exit(1);
        }
    }

    private static String answer(Method m, Object on, Object[] args) {
        try {
            return String.valueOf(m.invoke(on, args));
        } catch (InvocationTargetException e) {
            return "throws " + e.getCause().getClass().getSimpleName();
        } catch (IllegalAccessException e) {
            throw new IllegalStateException(e);
        }
    }

    private String call(String name, Object... args) {
        // Behind so many calls the document promises nothing.
        if (++calls > CALLS) {
            return "";
        }
        String is = answer(OF_CLASS.get(name), program, args);
        String due = answer(OF_MODEL.get(name), model, args);
        log.add(name + java.util.Arrays.toString(args) + " = " + is);
        ANSWERED.computeIfAbsent(name, k -> new java.util.TreeMap<>()).merge(is, 1, Integer::sum);
        if (!is.equals(due)) {
            wrong = true;
            log.add("    due: " + due);
        }
        return is;
    }

    private void feed(String text) {
        log.add("text: " + text);
        for (int i = 0; i < text.length(); i += 20) {
            int[] v = new int[5];
            for (int j = 0; j < 20; j++) {
                v[j / 4] = v[j / 4] << 8 | (i + j < text.length() ? text.charAt(i + j) : random.nextInt(256));
            }
            call("feed", v[0], v[1], v[2], v[3], v[4]);
        }
        call("end", text.length());
    }

    private int any(int below) {
        switch (random.nextInt(60)) {
            case 0: return -1;
            case 1: return below;
            case 2: return random.nextInt();
            case 3: return Integer.MAX_VALUE;
            case 4: return Integer.MIN_VALUE;
            default: return random.nextInt(below);
        }
    }

    private List<String> names(String of) {
        List<String> names = new ArrayList<>();
        for (String n : model.names(of)) {
            names.add(n);
        }
        return names;
    }

    private void run() {
        int most = 1 + random.nextInt(random.nextInt(3) == 0 ? 500 : 250);
        if (random.nextInt(20) != 0) {
            newField();
        }
        while (calls < most && !wrong) {
            step();
        }
        dump();
    }

    /** Mostly until one is right. */
    private void newField() {
        int tries = random.nextInt(10) == 0 ? 1 : 6;
        for (int i = 0; i < tries && (i == 0 || model.fault() != 0); i++) {
            call("end", 0);
            feed(texts.field());
            call("field");
            call("fault");
        }
    }

    private void step() {
        int what = random.nextInt(100);
        if (what < 2) {
            newField();
        } else if (what < 8) {
            call("end", 0);
            feed(texts.book(names("looker"), names("figure")));
            call("book", random.nextInt(20) == 0 ? random.nextInt(5) - 2 : random.nextInt(2));
            call("told", any(4));
            call("fault");
        } else if (what < 14) {
            call("end", 0);
            feed(texts.sentence(names("owner"), names("looker")));
            call("sentence");
            call("fault");
            call("said", -1);
        } else if (what < 20) {
            fits();
        } else if (what < 50) {
            act();
        } else {
            ask();
        }
    }

    private void fits() {
        StringBuilder b = new StringBuilder();
        int f = random.nextInt(2);
        int x = any(model.count(0)) & 255;
        int y = any(model.count(1)) & 255;
        for (int i = random.nextInt(9); i >= 0; i--) {
            b.append((char) x).append((char) y);
            if (random.nextInt(3) == f) {
                int side = random.nextInt(4);
                x = x + (side == 0 ? 1 : side == 2 ? -1 : 0) & 255;
                y = y + (side == 1 ? 1 : side == 3 ? -1 : 0) & 255;
            }
        }
        if (random.nextInt(30) == 0) {
            b.append((char) 0);
        }
        call("end", 0);
        feed(b.toString());
        call("fits");
        call("fitsAt", any(36));
        call("ask");
    }

    private void act() {
        switch (random.nextInt(14)) {
            case 0: call("turn", any(5), any(4)); break;
            case 1: call("walk", any(5), any(4)); break;
            case 2: call("shut", any(5)); break;
            case 3: call("open", any(5)); break;
            case 4: call("face", any(6), any(4)); break;
            case 5: call("hours", 1 + any(4)); break;
            case 6: call("hours", any(63)); break;
            case 7: call("undo"); break;
            case 8: call("drawn", any(62), random.nextInt()); break;
            case 9: call("drawn", 1 + any(4), any(100)); break;
            case 10: call("image", any(3)); break;
            case 11: call("restore", any(3)); break;
            case 12: call("feed", random.nextInt(), random.nextInt(), 0, -1, random.nextInt()); break;
            default: call(random.nextBoolean() ? "end" : "count", any(60)); break;
        }
    }

    private void ask() {
        switch (random.nextInt(26)) {
            case 0: call("figure", any(6), any(8)); break;
            case 1: call("looker", any(5), any(6)); break;
            case 2: call("cell", any(6), any(6), any(4)); break;
            case 3: call("now", any(5)); break;
            case 4: call("land", any(4)); break;
            case 5: call("where", any(6), any(202)); break;
            case 6: call("comes", any(6), any(6), any(6)); break;
            case 7: call("cover"); break;
            case 8: call("coverBy", any(5)); break;
            case 9: call("few"); break;
            case 10: call("fewest"); break;
            case 11: call("blind", any(6), any(6), any(6), any(62)); break;
            case 12: blind(); break;
            case 13: call("blinded"); break;
            case 14: call("fitsAt", any(4)); break;
            case 15: call("ask"); break;
            case 16: call("grown"); break;
            case 17: call("farthest"); break;
            case 18: call("mean", any(2)); break;
            case 19: call("line", any(6)); break;
            case 20: call("byteAt", any(28)); break;
            case 21: call("odds", any(6), any(32), random.nextInt()); break;
            case 22: call("told", any(4)); break;
            case 23: call("said", any(7) - 1); break;
            case 24: call("count", any(6)); break;
            default: call("fault"); break;
        }
    }

    /** To a cell beside the figure's own, or one where it will be. */
    private void blind() {
        int f = random.nextInt(6);
        int cell = model.where(f, 0);
        int later = model.where(f, random.nextInt(30));
        int side = random.nextInt(4);
        if (random.nextInt(2) == 0 && cell >= 0) {
            call("blind", f, cell % 9 + (side == 0 ? 1 : side == 2 ? -1 : 0), cell / 9 + (side == 1 ? 1 : side == 3 ? -1 : 0), 1 + random.nextInt(60));
        } else {
            call("blind", f, later % 9, later / 9, 1 + random.nextInt(60));
        }
    }

    /** All that can be looked at, as far as there are calls left. */
    private void dump() {
        for (int f = 0; f < model.count(3); f++) {
            for (int what = 0; what < 8; what++) {
                call("figure", f, what);
            }
            call("line", f);
        }
        for (int i = 0; i < 30; i++) {
            call("byteAt", i);
        }
        for (int l = 0; l < model.count(4); l++) {
            for (int what = 0; what < 6; what++) {
                call("looker", l, what);
            }
        }
        for (int x = 0; x < model.count(0); x++) {
            for (int y = 0; y < model.count(1); y++) {
                call("cell", x, y, 3);
                call("cell", x, y, random.nextInt(3));
            }
        }
        for (int i = 0; i < 6; i++) {
            call("now", i);
            call("land", i);
            call("count", i);
            call("told", i);
            call("coverBy", i);
            call("said", i - 1);
        }
    }
}
