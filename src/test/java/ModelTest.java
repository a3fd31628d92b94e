import java.lang.reflect.InvocationTargetException;
import java.lang.reflect.Method;
import java.util.ArrayList;
import java.util.Arrays;
import java.util.Comparator;
import java.util.List;
import java.util.Random;

/** Runs of calls by a fixed chance, on WidowRoads and on the plain Model side by side. */
final class ModelTest {
    private static final int RUNS = 400;
    private static final int CALLS = 512;
    private static final int MOST_TOLD = 20;

    private final Random random;
    private final WidowRoads x = new WidowRoads();
    private final Model model = new Model();
    private final List<String> log = new ArrayList<>();
    private int calls;
    private String difference;

    private static Method[] face;
    private static Method[] modelFace;

    private ModelTest(long seed) {
        random = new Random(seed);
    }

    public static void main(String[] args) throws Exception {
        face = Arrays.stream(WidowRoads.class.getDeclaredMethods())
                .filter(m -> java.lang.reflect.Modifier.isPublic(m.getModifiers()))
                .sorted(Comparator.comparing(Method::getName)).toArray(Method[]::new);
        modelFace = new Method[face.length];
        for (int i = 0; i < face.length; i++) {
            modelFace[i] = Model.class.getDeclaredMethod(face[i].getName(), face[i].getParameterTypes());
            modelFace[i].setAccessible(true);
        }
        int runs = args.length > 0 ? Integer.parseInt(args[0]) : RUNS;
        long first = args.length > 1 ? Long.parseLong(args[1]) : 1;
        int wrong = 0;
        long asked = 0;
        for (long seed = first; seed < first + runs; seed++) {
            ModelTest run = new ModelTest(seed);
            run.go();
            asked += run.calls;
            if (run.difference != null) {
                wrong++;
                System.out.println("run " + seed + ": " + run.difference);
                int from = Math.max(0, run.log.size() - MOST_TOLD);
                System.out.println("  behind " + run.log.subList(from, run.log.size()));
            }
        }
        System.out.println(runs + " runs, " + asked + " calls, " + wrong + " runs not as the model");
        if (wrong != 0 || asked == 0) {
            System.exit(1);
        }
    }

    private void go() throws Exception {
        if (random.nextInt(8) > 0) {
            tell();
        }
        while (calls < CALLS && difference == null) {
            int dice = random.nextInt(100);
            if (dice < 2) {
                tell();
            } else if (dice < 6) {
                see();
            } else {
                Method method = face[random.nextInt(face.length)];
                boolean rare = method.getName().equals("colony") || method.getName().equals("feed");
                if (!rare || random.nextInt(10) == 0) {
                    call(method.getName(), arguments(method));
                }
            }
        }
    }

    private void call(String name, long... arguments) throws Exception {
        for (int i = 0; i < face.length && difference == null && calls < CALLS; i++) {
            if (face[i].getName().equals(name)) {
                calls++;
                long got = invoke(face[i], x, arguments);
                long want = invoke(modelFace[i], model, arguments);
                String told = name + Arrays.toString(arguments);
                if (got != want) {
                    difference = told + " answered " + got + ", the model " + want;
                }
                log.add(told + "=" + want);
            }
        }
    }

    private static long invoke(Method method, Object object, long[] arguments) throws Exception {
        Object[] boxed = new Object[arguments.length];
        for (int i = 0; i < boxed.length; i++) {
            boxed[i] = method.getParameterTypes()[i] == long.class ? (Object) arguments[i] : (Object) (int) arguments[i];
        }
        try {
            return ((Number) method.invoke(object, boxed)).longValue();
        } catch (InvocationTargetException e) {
            throw new IllegalStateException(method + Arrays.toString(arguments), e.getCause());
        }
    }

    // ---- arguments

    private long[] arguments(Method method) {
        long[] arguments = new long[method.getParameterCount()];
        String name = method.getName();
        for (int i = 0; i < arguments.length; i++) {
            arguments[i] = argument(name, i);
        }
        return arguments;
    }

    private long argument(String name, int i) {
        if (random.nextInt(60) == 0) {
            long[] odd = {-1, Integer.MIN_VALUE, Integer.MAX_VALUE, 0x0A0A0A0A, 1 << 30, -2, 100, 900};
            return odd[random.nextInt(odd.length)];
        }
        switch (name) {
            case "creek": case "walked": case "first": case "bridge":
                return cell();
            case "road": case "joins": case "net": case "farthest": case "chance":
                return i == 0 ? cell() : name.equals("chance") ? random.nextInt(2) : year();
            case "way":
                return i < 2 ? cell() : year();
            case "beeline":
                return cell();
            case "visits":
                return i == 0 ? widow() : cell();
            case "luck":
                return i == 0 ? seed() : i == 1 ? random.nextInt(22) : cell();
            case "drawn":
                return i == 0 ? seed() : random.nextInt(2);
            case "evening": case "roads": case "pegs": case "nets": case "missing": case "rings": case "bridges":
            case "line": case "served":
                return year();
            case "corners":
                return i == 0 ? random.nextInt(6) : year();
            case "house":
                return i == 0 ? random.nextInt(6) : year();
            case "at":
                return i == 0 ? widow() : random.nextInt(random.nextBoolean() ? 8 : 43);
            case "worth":
                return random.nextInt(1 + Math.max(1, 1 << model.count(7)));
            case "faced": case "griefs": case "ask": case "leaves":
                return i == 0 ? random.nextInt(4) : widow();
            case "end":
                return random.nextInt(1 + Math.max(1, model.count(10)) * 2);
            case "feed":
                return random.nextInt();
            case "rate":
                return i == 0 ? widow() : random.nextInt(42);
            case "count":
                return random.nextInt(13);
            case "row":
                return i < 2 ? random.nextInt(4) : random.nextInt(10) == 0 ? random.nextInt(70) - 5 : 3 * random.nextInt(4);
            case "write":
                return i == 0 ? random.nextInt(4) : i == 1 ? random.nextInt(8) : value();
            case "paste":
                return i == 0 || i == 2 ? random.nextInt(4) : random.nextInt(8);
            case "gets":
                return i < 2 ? widow() : random.nextInt(2);
            case "image": case "back":
                return random.nextInt(3);
            default:
                return i == 0 ? widow() : random.nextInt(5);
        }
    }

    private long cell() {
        int wide = Math.max(1, model.count(3));
        int high = Math.max(1, model.count(4));
        return random.nextInt(12) == 0 ? random.nextInt(90) : 10 * random.nextInt(wide) + random.nextInt(high);
    }

    private long year() {
        return random.nextInt(3) == 0 ? model.count(0) : random.nextInt(model.count(0) + 2);
    }

    private long widow() {
        return random.nextInt(Math.max(1, model.count(7)) + (random.nextInt(8) == 0 ? 1 : 0));
    }

    private long seed() {
        return random.nextInt(3) == 0 ? random.nextInt(2_000_000_020) : random.nextInt(50);
    }

    private long value() {
        long value = random.nextInt(3) == 0 ? cell() : random.nextInt(8);
        return random.nextInt(12) == 0 ? value + (1L << 8 * (1 + random.nextInt(7))) : value;
    }

    /** A row as someone may have seen it, and what is asked of it. */
    private void see() throws Exception {
        int slot = random.nextInt(4);
        int many = random.nextInt(4);
        call("row", slot, random.nextInt(4), 3 * many);
        for (int i = 0; i < many; i++) {
            long widow = widow();
            int step = random.nextInt(6);
            int cell = model.at((int) widow, step);
            call("write", slot, 3 * i, widow);
            call("write", slot, 3 * i + 1, step);
            call("write", slot, 3 * i + 2, cell >= 0 && random.nextInt(4) > 0 ? cell : cell());
        }
        long widow = widow();
        call("laws", slot);
        call("faced", slot, widow);
        call("griefs", slot, widow);
        call("ask", slot, widow);
        call("leaves", slot, widow);
    }

    // ---- texts

    private void tell() throws Exception {
        String text = text();
        if (random.nextInt(4) == 0) {
            text = spoilt(text);
        }
        if (random.nextInt(10) > 0) {
            call("end", 0);
        }
        byte[] bytes = text.getBytes(java.nio.charset.StandardCharsets.ISO_8859_1);
        int before = model.count(10);
        for (int i = 0; i < bytes.length; i += 20) {
            call("feed", Due.number(bytes, i), Due.number(bytes, i + 4), Due.number(bytes, i + 8),
                    Due.number(bytes, i + 12), Due.number(bytes, i + 16));
        }
        call("end", before + bytes.length);
        call("colony");
        call("fault", 0);
        call("fault", 1);
    }

    private String text() {
        int wide = 2 + random.nextInt(random.nextBoolean() ? 3 : 7);
        int high = 2 + random.nextInt(random.nextBoolean() ? 3 : 7);
        int years = 1 + random.nextInt(random.nextBoolean() ? 3 : 12);
        StringBuilder text = new StringBuilder("colony years " + years + " law " + random.nextInt(4) + " odds "
                + random.nextInt(11) + " wide " + wide + " high " + high + ";");
        List<String> lines = new ArrayList<>();
        int creeks = random.nextInt(random.nextInt(3) == 0 ? 13 : 4);
        for (int i = 0; i < creeks; i++) {
            lines.add("creek" + place(wide, high) + ";");
        }
        int houses = random.nextInt(7);
        for (int i = 0; i < houses; i++) {
            lines.add("house" + place(wide, high) + ";");
        }
        int widows = random.nextInt(8);
        for (int i = 0; i < widows; i++) {
            lines.add(widowLine(wide, high, years));
        }
        java.util.Collections.shuffle(lines, random);
        WidowRoads probe = new WidowRoads();
        for (String line : lines) {
            boolean fits = text.length() + line.length() <= 900;
            boolean fault = random.nextInt(60) == 0;
            if (fits && (fault || Due.tell(probe, text + line) > 0)) {
                text.append(line);
            }
        }
        return text.toString();
    }

    private String place(int wide, int high) {
        return " " + random.nextInt(wide) + " " + random.nextInt(high);
    }

    private String widowLine(int wide, int high, int years) {
        StringBuilder line = new StringBuilder("widow" + place(wide, high) + " faces " + random.nextInt(4) + " steps "
                + (1 + random.nextInt(random.nextBoolean() ? 10 : 40)) + " at "
                + Math.min(11, random.nextInt(years + (random.nextInt(6) == 0 ? 1 : 0))) + " grief");
        int turns = 1 + random.nextInt(random.nextBoolean() ? 3 : 8);
        String[] kinds = {"on", "right", "back", "left"};
        for (int i = 0; i < turns; i++) {
            line.append(' ').append(kinds[random.nextInt(4)]);
        }
        return line.append(';').toString();
    }

    /** A text with some of its bytes left out, doubled or changed. */
    private String spoilt(String text) {
        StringBuilder spoilt = new StringBuilder(text);
        int many = 1 + random.nextInt(3);
        for (int i = 0; i < many && spoilt.length() > 0; i++) {
            int at = random.nextInt(spoilt.length());
            String signs = "0123456789;; \n\tazony-A" + (char) 200 + (char) 0;
            switch (random.nextInt(5)) {
                case 0:
                    spoilt.deleteCharAt(at);
                    break;
                case 1:
                    spoilt.setLength(at);
                    break;
                case 2:
                    spoilt.insert(at, signs.charAt(random.nextInt(signs.length())));
                    break;
                case 3:
                    int to = Math.min(spoilt.length(), at + random.nextInt(40));
                    spoilt.insert(at, spoilt.substring(at, to));
                    break;
                default:
                    spoilt.setCharAt(at, signs.charAt(random.nextInt(signs.length())));
                    break;
            }
        }
        spoilt.setLength(Math.min(900, spoilt.length()));
        return spoilt.toString();
    }
}
