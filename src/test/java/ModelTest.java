import java.lang.reflect.Method;
import java.lang.reflect.Modifier;
import java.util.ArrayList;
import java.util.Arrays;
import java.util.Comparator;
import java.util.List;
import java.util.Random;

/** Long runs of calls on BarkMoney and on Model: every answer, STATUS and FRACTION must be the same. */
public final class ModelTest {
    private static final int RUNS = Integer.getInteger("runs", 400);
    private static final int CALLS = 300;
    private static final String[] NAMES = {"a", "b", "d", "leaf", "bark", "rice", "silk", "ann", "bo", "abcdefgh", "x", "y", "z", "q", "r", "cyd"};

    private final Random random;
    private final BarkMoney real = new BarkMoney();
    private final Model model = new Model();
    private final List<String> story = new ArrayList<>();
    private final List<String> kinds = new ArrayList<>();
    private final List<String> goods = new ArrayList<>();
    private final List<String> people = new ArrayList<>();

    private ModelTest(long seed) {
        random = new Random(seed);
    }

    public static void main(String[] args) throws Exception {
        List<Method> methods = new ArrayList<>();
        for (Method m : BarkMoney.class.getDeclaredMethods()) {
            if (Modifier.isPublic(m.getModifiers())) {
                methods.add(m);
            }
        }
        methods.sort(Comparator.comparing(Method::getName));
        int first = Integer.getInteger("first", 0);
        for (int run = first; run < first + RUNS; run++) {
            ModelTest test = new ModelTest(run);
            if (!test.isSame(methods)) {
                System.out.println("run " + run + " differs");
                for (String line : test.story) {
                    System.out.println("  " + line);
                }
                System.exit(1);
            }
        }
        System.out.println(RUNS + " runs are the same");
    }

    private boolean isSame(List<Method> methods) throws Exception {
        if (!isTextSame(landText(), true)) {
            return false;
        }
        for (int i = 0; i < CALLS; i++) {
            int dice = random.nextInt(100);
            boolean same;
            if (dice < 2) {
                same = isTextSame(perhapsBroken(landText()), true);
            } else if (dice < 6) {
                same = isTextSame(perhapsBroken(reignsText()), false);
            } else {
                same = isCallSame(methods.get(random.nextInt(methods.size())));
            }
            if (!same) {
                return false;
            }
        }
        return true;
    }

    private boolean isCallSame(Method m) throws Exception {
        Object[] args = new Object[m.getParameterCount()];
        for (int i = 0; i < args.length; i++) {
            args[i] = m.getParameterTypes()[i] == long.class ? (Object) number64() : (Object) number(m.getName(), i);
        }
        if (m.getName().equals("feed") && random.nextInt(10) > 0 || m.getName().equals("land") && random.nextInt(3) > 0) {
            return true;
        }
        Object a = m.invoke(real, args);
        Method twin = Model.class.getDeclaredMethod(m.getName(), m.getParameterTypes());
        Object b = twin.invoke(model, args);
        return note(m.getName() + Arrays.toString(args), a, b);
    }

    private boolean note(String call, Object a, Object b) {
        story.add(call + " = " + a + " (" + real.status() + "), model " + b + " (" + model.status() + ")");
        return a.equals(b) && real.status() == model.status() && real.top() == model.top() && real.bottom() == model.bottom()
            && real.fault(0) == model.fault(0) && real.fault(1) == model.fault(1);
    }

    private long number64() {
        return random.nextInt(3) == 0 ? random.nextLong() : random.nextInt(2000) - 500;
    }

    /** Numbers that often fit: the small ones name a thing, others are amounts, seeds or sums. */
    private int number(String call, int place) {
        int dice = random.nextInt(40);
        if (dice == 0) {
            return new int[] {-1, Integer.MIN_VALUE, Integer.MAX_VALUE, 10000, 1000, 61, -2, 100}[random.nextInt(8)];
        }
        if (dice < 3) {
            return random.nextInt(12) - 1;
        }
        switch (call) {
            case "feed": return 0x20202020;
            case "pay": case "buy": case "sell": case "tear": case "mend": case "burn": case "cross": case "bring":
                return place == (call.equals("bring") ? 1 : 2) ? amount() : random.nextInt(4);
            case "give": return place == 3 ? amount() : random.nextInt(3);
            case "fewest": case "payWith": return place == 1 ? random.nextInt(1000) / (1 + random.nextInt(10)) : random.nextInt(4);
            case "changes": case "baskets": case "leastSheets": case "mostValue": return random.nextInt(1000);
            case "month": return 1 + random.nextInt(random.nextInt(20) == 0 ? 99 : 3);
            case "rule": return place == 0 ? random.nextInt(3) : random.nextInt(random.nextInt(2) == 0 ? 50 : 2000);
            case "plan": case "planFirst": return place == 0 ? 1 + random.nextInt(4) : random.nextInt(1000);
            case "live": case "mean": return place == 0 ? random.nextInt(10000) : 1 + random.nextInt(20);
            case "levelIn": case "monthsTill": return random.nextInt(1000);
            case "keptOf": return 1 + random.nextInt(9999);
            case "forged": case "looks": return place == 0 ? 1 + random.nextInt(30) : random.nextInt(20);
            case "tray": return place == 2 ? random.nextInt(9) : random.nextInt(4);
            case "land": case "reigns": return random.nextInt(3);
            case "told": return random.nextInt(12);
            default: return random.nextInt(4);
        }
    }

    private int amount() {
        return 1 + random.nextInt(random.nextInt(3) == 0 ? 999 : random.nextInt(2) == 0 ? 3 : 30);
    }

    // ---- texts

    private boolean isTextSame(String text, boolean ofLand) {
        byte[] b = Check.bytes(text);
        if (b.length > (ofLand ? 880 : 300)) {
            return true;
        }
        // what stands on the tape already would come ahead of the text
        real.land(-1);
        model.land(-1);
        int before = emptyTape();
        if (before < 0) {
            return false;
        }
        for (int i = 0; i < b.length; i += 20) {
            int[] v = new int[5];
            for (int k = 0; k < 5; k++) {
                v[k] = Check.word(b, i + 4 * k);
            }
            if (real.feed(v[0], v[1], v[2], v[3], v[4]) != model.feed(v[0], v[1], v[2], v[3], v[4])) {
                return false;
            }
        }
        int a = ofLand ? real.land(b.length) : real.reigns(b.length);
        int m = ofLand ? model.land(b.length) : model.reigns(b.length);
        return note((ofLand ? "land '" : "reigns '") + text + "'", a, m);
    }

    /** A text that can't be taken empties the tape and changes nothing else. */
    private int emptyTape() {
        real.feed(-1, -1, -1, -1, -1);
        model.feed(-1, -1, -1, -1, -1);
        int a = real.reigns(1);
        int b = model.reigns(1);
        return a == b && real.status() == model.status() ? 0 : -1;
    }

    private String blank() {
        return random.nextInt(5) == 0 ? "\n" : random.nextInt(9) == 0 ? "  " : " ";
    }

    private String fresh(List<String> mine) {
        List<String> free = new ArrayList<>(Arrays.asList(NAMES));
        free.removeAll(kinds);
        free.removeAll(goods);
        free.removeAll(people);
        String name = free.get(random.nextInt(free.size()));
        mine.add(name);
        return name;
    }

    private String landText() {
        kinds.clear();
        goods.clear();
        people.clear();
        List<String> parts = new ArrayList<>();
        int[] worths = {1, 2, 5, 10, 20, 50, 100, 500, 3, 7, 15, 25};
        boolean small = random.nextInt(4) == 0;
        for (int i = random.nextInt(8) == 0 ? random.nextInt(5) : 2 + random.nextInt(3); i > 0 && kinds.size() < 4; i--) {
            int worth = small ? 1 + random.nextInt(9) : worths[random.nextInt(worths.length)];
            parts.add("kind " + fresh(kinds) + " worth " + worth);
        }
        for (int i = random.nextInt(8) == 0 ? random.nextInt(6) : 2 + random.nextInt(3); i > 0; i--) {
            int value = random.nextBoolean() ? 1 + random.nextInt(99) : 5 * (1 + random.nextInt(9));
            parts.add("good " + fresh(goods) + " value " + value + (random.nextBoolean() ? "" : " stock " + random.nextInt(random.nextBoolean() ? 4 : 999)));
        }
        for (int i = random.nextInt(8) == 0 ? random.nextInt(6) : 2 + random.nextInt(3); i > 0; i--) {
            parts.add("person " + fresh(people) + (random.nextBoolean() ? "" : " silver " + random.nextInt(9999)));
        }
        for (String p : people) {
            for (String k : kinds) {
                if (random.nextInt(4) > 0) {
                    parts.add("has " + p + " " + k + " " + random.nextInt(random.nextInt(5) == 0 ? 999 : small ? 6 : 20));
                }
            }
        }
        parts.add(random.nextInt(parts.size() + 1), "calm " + (random.nextBoolean() ? 10 + random.nextInt(400) : 500 + random.nextInt(9000)));
        parts.add(random.nextInt(parts.size() + 1), "war " + random.nextInt(random.nextBoolean() ? 20 : 999));
        if (random.nextBoolean()) {
            parts.add("fee " + random.nextInt(51));
        }
        StringBuilder text = new StringBuilder();
        for (String part : parts) {
            for (String token : part.split(" ")) {
                text.append(token).append(blank());
            }
            text.append(";").append(random.nextBoolean() ? "" : blank());
        }
        return text.toString();
    }

    private String oneOf(List<String> names) {
        return names.isEmpty() || random.nextInt(60) == 0 ? NAMES[random.nextInt(NAMES.length)] : names.get(random.nextInt(names.size()));
    }

    private String reignsText() {
        StringBuilder text = new StringBuilder();
        steps(text, 0);
        return text.toString();
    }

    private void steps(StringBuilder text, int depth) {
        int many = depth == 0 ? 1 + random.nextInt(8) : random.nextInt(4);
        for (int i = 0; i < many; i++) {
            int n = random.nextInt(60) == 0 ? random.nextInt(200) : 1 + random.nextInt(9);
            int dice = random.nextInt(12);
            String deed = new String[] {"pay", "tear", "mend", "buy", "sell"}[random.nextInt(5)];
            if (dice < 5) {
                text.append(deed).append(" ").append(oneOf(people)).append(" ");
                text.append(oneOf(deed.equals("buy") || deed.equals("sell") ? goods : kinds)).append(" ").append(n).append(";");
            } else if (dice < 6) {
                text.append("month ").append(n).append(";");
            } else if (dice < 8) {
                text.append("any;");
            } else if (dice == 8 && random.nextInt(4) == 0) {
                text.append("stop;");
            } else if (dice < 10) {
                String[] tests = {"level", "holds " + oneOf(people), "left " + oneOf(goods)};
                text.append("when ").append(tests[random.nextInt(3)]).append("<>=".charAt(random.nextInt(3))).append(random.nextInt(60)).append(";");
                steps(text, depth + 1);
                text.append("end;");
            } else if (depth < 3) {
                text.append("loop ").append(random.nextInt(3) == 0 ? 1 + random.nextInt(99) : n).append(";");
                steps(text, depth + 1);
                text.append("end;");
            }
        }
    }

    private String perhapsBroken(String text) {
        if (random.nextInt(3) > 0 || text.isEmpty()) {
            return text;
        }
        StringBuilder broken = new StringBuilder(text);
        int place = random.nextInt(broken.length());
        String[] bits = {";", "<", "=", "7", "12345", "calm ", "person ", " end;", "abcdefghi", " ", "\t", "Q", "x", "loop 2;", "has ", "any;", "when level=1;"};
        int dice = random.nextInt(4);
        if (dice == 0) {
            broken.deleteCharAt(place);
        } else if (dice == 1) {
            broken.insert(place, bits[random.nextInt(bits.length)]);
        } else if (dice == 2) {
            broken.setLength(place);
        } else {
            int end = Math.min(broken.length(), place + 1 + random.nextInt(12));
            broken.replace(place, end, bits[random.nextInt(bits.length)]);
        }
        return broken.toString();
    }
}
