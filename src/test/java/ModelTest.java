import java.lang.reflect.InvocationTargetException;
import java.lang.reflect.Method;
import java.util.Arrays;
import java.util.Random;

/** Random runs, told by fixed seeds: each answer of the program against the model's; nothing but what the document names is thrown. */
public final class ModelTest {
    private static final int RUNS = 400;
    private static final int CALLS = 512;

    private final Random random;
    private final StillYear x = new StillYear();
    private final Model model = new Model();
    private final StringBuilder calls = new StringBuilder();
    private int called = 0;
    private boolean asDue = true;

    private ModelTest(long seed) {
        random = new Random(seed);
    }

    public static void main(String[] args) throws Exception {
        int runs = args.length > 0 ? Integer.parseInt(args[0]) : RUNS;
        for (int run = 0; run < runs; run++) {
            new ModelTest(run).run(run);
        }
        Checks.end("ModelTest");
    }

    private void run(int number) throws Exception {
        Method[] face = Arrays.stream(StillYear.class.getDeclaredMethods())
            .filter(m -> java.lang.reflect.Modifier.isPublic(m.getModifiers()))
            .sorted((a, b) -> a.getName().compareTo(b.getName())).toArray(Method[]::new);
        while (called < CALLS && asDue) {
            int kind = random.nextInt(30);
            if (kind == 0 || called == 0) {
                tell("studio", studio());
            } else if (kind < 3) {
                tell("law", law());
            } else if (kind < 7) {
                tell("work", work());
            } else if (kind < 10) {
                tell("book", book());
            } else {
                for (int i = 0; i < 8; i++) {
                    ask(face[random.nextInt(face.length)]);
                }
                if (model.year == 20) {
                    call(StillYear.class.getMethod("packing"));
                    call(StillYear.class.getMethod("packed", int.class), pick(model.sittings.size()));
                }
            }
        }
        if (!asDue) {
            Checks.wrong("run " + number + ":" + calls);
        }
    }

    private void tell(String kind, String text) throws Exception {
        String fed = random.nextInt(6) == 0 ? spoilt(text) : text;
        int before = model.tape.length();
        if (before > 0) {
            // what is left on the tape is read as a text first
            call(StillYear.class.getMethod("law", int.class), Math.min(before, 150));
        }
        for (int i = 0; i < fed.length(); i += 20) {
            call(StillYear.class.getMethod("feed", int.class, int.class, int.class, int.class, int.class),
                Checks.four(fed, i), Checks.four(fed, i + 4), Checks.four(fed, i + 8), Checks.four(fed, i + 12), Checks.four(fed, i + 16));
        }
        call(StillYear.class.getMethod(kind, int.class), fed.length());
        call(StillYear.class.getMethod("fault"));
    }

    private String spoilt(String text) {
        StringBuilder b = new StringBuilder(text);
        int at = random.nextInt(text.length() + 1);
        String signs = " ;[](),+-*/%0123456789abdeghiklmnorstuwy\u00e9\t";
        char sign = signs.charAt(random.nextInt(signs.length()));
        switch (random.nextInt(4)) {
            case 0: b.setLength(at); break;
            case 1: b.insert(at, sign); break;
            case 2: if (at < text.length()) { b.setCharAt(at, sign); } break;
            default: if (at < text.length()) { b.deleteCharAt(at); } break;
        }
        return b.length() > 600 ? text : b.toString();
    }

    private String blank() {
        return random.nextInt(12) == 0 ? "  " : "";
    }

    private String studio() {
        if (random.nextInt(4) == 0) {
            return packingStudio();
        }
        StringBuilder b = new StringBuilder();
        int many = random.nextInt(20) == 0 ? 64 : random.nextInt(22);
        boolean odd = random.nextInt(5) == 0;
        int[] left = {8, 6, 8};
        for (int i = 0; i < many; i++) {
            int kind = random.nextInt(11);
            int which = kind < 4 ? 0 : kind < 7 ? 1 : kind < 9 ? 2 : 3;
            if (!odd && which < 3 && left[which]-- <= 0) {
                continue;
            }
            b.append(blank());
            switch (which) {
                case 0: b.append("seat ").append(random.nextInt(10)); break;
                case 1: b.append("sitter ").append(1 + random.nextInt(9)).append(' ').append(1 + random.nextInt(random.nextBoolean() ? 60 : 6)); break;
                case 2: b.append("sitting ").append(1 + random.nextInt(random.nextBoolean() ? 400 : 150)); break;
                default: b.append(kind == 9 ? "year " : "food ").append(kind == 9 ? 150 + random.nextInt(251) : random.nextInt(100)); break;
            }
            b.append(blank()).append(';');
        }
        b.setLength(Math.min(b.length(), 600));
        return b.toString();
    }

    private String packingStudio() {
        StringBuilder b = new StringBuilder("year 20;seat 3;sitter 3 3;");
        int many = 4 + random.nextInt(5);
        for (int i = 0; i < many; i++) {
            b.append("sitting ").append(1 + random.nextInt(13)).append(';');
        }
        return b.toString();
    }

    private String law() {
        String text = sum(random.nextInt(8) == 0 ? 8 : random.nextInt(4));
        return text.length() <= 150 ? text : "light + hunger - still % 7";
    }

    private String sum(int depth) {
        StringBuilder b = new StringBuilder(unit(depth));
        int more = random.nextInt(3);
        for (int i = 0; i < more; i++) {
            b.append(blank()).append("+-*/%".charAt(random.nextInt(5))).append(blank()).append(unit(depth));
        }
        return b.toString();
    }

    private String unit(int depth) {
        int kind = random.nextInt(depth > 0 ? 9 : 5);
        if (kind < 2) {
            return "" + random.nextInt(random.nextBoolean() ? 12 : 1003);
        }
        if (kind < 5) {
            return Model.VARIABLES.get(random.nextInt(8));
        }
        if (kind < 7) {
            return "(" + sum(depth - 1) + ")";
        }
        return (kind == 7 ? "least" : "most") + blank() + "[" + sum(depth - 1) + "," + blank() + sum(depth - 1) + "]";
    }

    private String work() {
        StringBuilder b = new StringBuilder(steps(random.nextInt(10) == 0 ? 7 : 2));
        b.setLength(Math.min(b.length(), 150));
        int end = b.lastIndexOf(";");
        if (b.indexOf("[") < 0) {
            b.setLength(end + 1);
        } else if (b.length() == 150) {
            return "again 60[day;];";
        }
        return b.toString();
    }

    private int someone() {
        return pick(model.people.size());
    }

    private int somewhere() {
        return pick(model.lights.size());
    }

    private int pick(int many) {
        return random.nextInt(40) == 0 || many == 0 ? many : random.nextInt(many);
    }

    private String steps(int depth) {
        StringBuilder b = new StringBuilder();
        int many = random.nextInt(depth > 4 ? 2 : 7) + (depth > 4 ? 1 : 0);
        for (int i = 0; i < many; i++) {
            b.append(blank());
            int kind = random.nextInt(12);
            if (depth > 4) {
                b.append("again").append(random.nextInt(4)).append('[').append(steps(depth - 1)).append(']');
            } else if (kind < 4) {
                b.append("sit ").append(someone()).append(' ').append(somewhere());
            } else if (kind < 5) {
                b.append("rise ").append(someone());
            } else if (kind < 7) {
                b.append("feed ").append(someone());
            } else if (kind < 8) {
                b.append("curtain ").append(somewhere()).append(' ').append(random.nextInt(10));
            } else if (kind < 10 || depth == 0) {
                b.append("day");
            } else {
                b.append("again ").append(random.nextInt(random.nextBoolean() ? 61 : 6)).append('[').append(steps(depth - 1)).append(']');
            }
            b.append(';');
        }
        return b.toString();
    }

    private String book() {
        StringBuilder b = new StringBuilder();
        int many = random.nextInt(5);
        int seat = pick(3);
        for (int i = 0; i < many; i++) {
            int days = random.nextInt(random.nextInt(4) == 0 ? 40 : 7);
            int mark = seat < model.lights.size() && !model.people.isEmpty()
                ? model.now.light[seat] * model.people.get(random.nextInt(model.people.size()))[0] : 7;
            int amount = random.nextInt(9) == 0 ? random.nextInt(10001) : days * mark;
            b.append(blank()).append(seat).append(' ').append(amount).append(';');
            seat = (seat + (random.nextInt(30) == 0 ? 0 : 1)) % Math.max(1, model.lights.size());
        }
        return b.toString();
    }

    private static final int[] EDGES = {
        -1, Integer.MIN_VALUE, Integer.MAX_VALUE, 5, 6, 7, 8, 9, 10, 11, 12, 13, 16, 17, 20, 21, 96, 97, 99, 100, 400, 401, 800, 801, 999, 1000};

    private void ask(Method m) throws Exception {
        String name = m.getName();
        if (name.equals("feed") && random.nextInt(4) != 0 || name.equals("studio") || name.equals("law") || name.equals("work") || name.equals("book")) {
            if (random.nextInt(3) != 0) {
                return;
            }
        }
        int[] a = new int[m.getParameterCount()];
        for (int i = 0; i < a.length; i++) {
            a[i] = argument(name, i);
        }
        if ((name.equals("placed") || name.equals("places")) && random.nextInt(8) != 0) {
            return;
        }
        call(m, a);
    }

    private int argument(String name, int index) {
        if (random.nextInt(25) == 0) {
            return EDGES[random.nextInt(EDGES.length)];
        }
        switch (name) {
            case "feed": return random.nextInt();
            case "would": return random.nextInt(index == 2 ? 1000 : index == 3 ? 100 : index == 7 ? 801 : index < 2 ? 10 : 6);
            case "ahead": return random.nextInt(index == 0 ? 100 : 3);
            case "meals": return index == 0 ? someone() : random.nextInt(401);
            case "need": return random.nextInt(401);
            case "well": return random.nextInt(index == 0 ? 17 : index == 1 ? 13 : 2);
            case "getsUp": return random.nextInt(index == 3 ? 3 : random.nextBoolean() ? 4 : 100);
            case "food": return index == 0 ? someone() : index == 1 ? random.nextInt(1 << model.people.size()) : random.nextInt(200);
            case "season": return index == 0 ? random.nextInt() : random.nextInt(index == 1 ? 17 : index == 2 ? 97 : 4);
            case "span": return index == 0 ? random.nextInt() : random.nextInt(index == 1 ? 21 : index == 2 ? 17 : index == 3 ? 97 : 3);
            case "told": return random.nextInt(11);
            case "sitter": return index == 0 ? someone() : random.nextInt(8);
            case "seat": return index == 0 ? somewhere() : random.nextInt(4);
            case "plate": case "share": return index == 0 ? somewhere() : index == 1 ? someone() : random.nextInt(2);
            case "goings": return index == 0 ? someone() : random.nextInt(2);
            case "gains": return index == 0 ? someone() : somewhere();
            case "mark": case "when": case "bright": case "placed": case "rising": return someone();
            case "crowd": case "lead": return somewhere();
            case "packed": case "sitting": return pick(model.sittings.size());
            default: return random.nextInt(3);
        }
    }

    private void call(Method m, int... a) throws Exception {
        if (!asDue || called == CALLS) {
            return;
        }
        called++;
        Object[] boxed = Arrays.stream(a).boxed().toArray();
        String want;
        try {
            want = "" + model.answer(m.getName(), a);
        } catch (RuntimeException e) {
            want = e.getClass().getSimpleName();
        }
        String got;
        try {
            got = "" + ((Number) m.invoke(x, boxed)).longValue();
        } catch (InvocationTargetException e) {
            got = e.getCause().getClass().getSimpleName();
        }
        calls.append("\n  ").append(m.getName()).append(Arrays.toString(a)).append(" -> ").append(got);
        if (!got.equals(want)) {
            calls.append(", due is ").append(want);
            asDue = false;
        }
    }
}
