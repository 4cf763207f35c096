import java.lang.reflect.InvocationTargetException;
import java.lang.reflect.Method;
import java.util.ArrayList;
import java.util.List;
import java.util.Map;
import java.util.Random;
import java.util.TreeMap;

/** Runs of calls drawn from a told seed, on FluxWatch and on the Model: every answer must be the same. */
public final class ModelTest {
    private static final int RUNS = 700;
    private static final int CALLS = 512;
    private static final String[] OFTEN = {
        "coil", "watch", "step", "step", "run", "since", "told", "mark", "mark", "lay", "lay", "item", "item", "sheet", "copy",
        "ask", "reads", "count", "knock", "pair", "soonest", "pour",
    };

    private final Random random;
    private final FluxWatch real = new FluxWatch();
    private final Model model = new Model();
    private final List<String> log = new ArrayList<>();
    private static final Map<String, Method[]> METHODS = new TreeMap<>();
    private static final Map<String, Integer> ANSWERED = new TreeMap<>();

    private ModelTest(long seed) {
        random = new Random(seed);
    }

    public static void main(String[] args) throws ReflectiveOperationException {
        for (Method m : FluxWatch.class.getMethods()) {
            if (m.getDeclaringClass() == FluxWatch.class) {
                METHODS.put(m.getName(), new Method[] {m, Model.class.getDeclaredMethod(m.getName(), m.getParameterTypes())});
            }
        }
        for (int run = 0; run < RUNS; run++) {
            if (!new ModelTest(run).same()) {
                System.out.println("run " + run + " differs");
                System.exit(1);
            }
        }
        System.out.println(RUNS + " runs of " + CALLS + " calls are the same; of " + METHODS.size()
            + " calls these many answered neither BAD nor the like: " + ANSWERED);
        if (ANSWERED.size() != METHODS.size()) {
            System.exit(1);
        }
    }

    private boolean same() throws ReflectiveOperationException {
        List<String> names = new ArrayList<>(METHODS.keySet());
        // Some runs stay small in their days, so that much can happen on few of them.
        boolean slow = random.nextBoolean();
        for (int i = 0; i < 5; i++) {
            if (!call("coil", 1 + random.nextInt(9))) return false;
        }
        while (log.size() < CALLS) {
            int sort = random.nextInt(24);
            boolean good;
            if (sort < 2) {
                good = law();
            } else if (sort == 2) {
                good = rows();
            } else {
                String name = random.nextInt(3) == 0 ? OFTEN[random.nextInt(OFTEN.length)] : names.get(random.nextInt(names.size()));
                if (slow && name.equals("run") && random.nextInt(4) > 0) name = "news";
                if (name.equals("drop") && random.nextInt(3) > 0) name = "told";
                if (name.equals("clear") && random.nextInt(3) > 0) name = "offer";
                good = call(name, arguments(name));
            }
            if (!good) return false;
        }
        return true;
    }

    private boolean call(String name, int... values) throws ReflectiveOperationException {
        Object[] boxed = new Object[values.length];
        StringBuilder told = new StringBuilder(name);
        for (int i = 0; i < values.length; i++) {
            boxed[i] = values[i];
            told.append(i == 0 ? "(" : ", ").append(values[i]);
        }
        Method[] both = METHODS.get(name);
        int want = (int) both[1].invoke(model, boxed);
        int got;
        try {
            got = (int) both[0].invoke(real, boxed);
        } catch (InvocationTargetException e) {
            System.out.println(log + "\n" + told + " threw " + e.getCause());
            return false;
        }
        log.add(told + " -> " + got);
        if (got != want) {
            System.out.println(log + "\n" + told + " answered " + got + ", the model " + want);
            return false;
        }
        if (got > -1000000000) {
            ANSWERED.merge(name, 1, Integer::sum);
        }
        return true;
    }

    private int pick(int... values) {
        return values[random.nextInt(values.length)];
    }

    /** Mostly within the bounds, now and then just outside of them or far away. */
    private int within(int least, int most) {
        int sort = random.nextInt(40);
        if (sort == 0) return pick(least - 1, most + 1);
        if (sort == 1) return pick(Integer.MIN_VALUE, Integer.MAX_VALUE, FluxWatch.NONE, -1, 0, 100000);
        if (sort < 6) return pick(least, most);
        return least + random.nextInt(Math.max(1, most - least + 1));
    }

    private int day() {
        int today = real.count(9);
        return random.nextInt(6) == 0 ? within(0, 1999) : within(Math.max(0, today - 5), Math.min(1999, today + 30));
    }

    private int past() {
        int today = real.count(9);
        return random.nextInt(3) > 0 ? today : within(Math.max(0, today - 3), today);
    }

    private int stepNumber() {
        return within(0, real.count(2) - 1);
    }

    private int coilNumber() {
        return within(0, real.count(0) - 1);
    }

    private int height() {
        int wanted = model.s.wanted;
        int around = pick(1, 1, -1) * (wanted + random.nextInt(13) - 6);
        return random.nextInt(3) > 0 ? around : within(-999, 999);
    }

    private int[] arguments(String name) {
        int from = day();
        switch (name) {
            case "coil": return new int[] {within(1, 9)};
            case "coilTold": return new int[] {coilNumber(), within(0, 4)};
            case "creep": return new int[] {coilNumber(), within(-9, 9)};
            case "pair": return new int[] {coilNumber(), coilNumber()};
            case "part": return new int[] {coilNumber()};
            case "watch": return new int[] {coilNumber(), from, from + within(0, 40)};
            case "line": return new int[] {coilNumber(), day()};
            case "step": return new int[] {within(0, 5), coilNumber(), past(), height()};
            case "told": return new int[] {stepNumber(), within(0, 5)};
            case "as":
            case "turns": return new int[] {stepNumber(), within(0, 5)};
            case "drop": return new int[] {stepNumber()};
            case "set": return set();
            case "run": return new int[] {random.nextInt(3) > 0 ? 1 + random.nextInt(4) : within(1, 60)};
            case "news": return new int[] {random.nextBoolean() ? past() : day(), within(0, 2)};
            case "since": return new int[] {within(0, 200)};
            case "falls": return new int[] {random.nextBoolean() ? within(0, 10000) : real.count(8) - random.nextInt(300)};
            case "seed": return new int[] {random.nextInt()};
            case "feed": return new int[] {random.nextInt(), random.nextInt(), random.nextInt()};
            case "trim": return new int[] {within(0, real.count(11))};
            case "textTold": return new int[] {within(0, real.count(3) - 1), within(0, 1)};
            case "why": return new int[] {within(0, 2)};
            case "knock": return new int[] {height()};
            case "width": return new int[] {within(0, pick(5, real.count(4), 60))};
            case "key": return new int[] {from, from + within(0, 9)};
            case "seen":
            case "keys": return new int[] {day()};
            case "offer": return new int[] {within(1, 9), random.nextBoolean() ? within(0, 999) : within(0, 9)};
            case "best": return new int[] {random.nextBoolean() ? within(0, 9999) : within(0, 20), within(0, 2)};
            case "soonest": return new int[] {random.nextBoolean() ? within(0, 9999) : within(0, 20), within(0, 10000), within(0, 2)};
            case "tell": return new int[] {random.nextInt(5)};
            case "check": return new int[] {within(1, 30)};
            case "count": return new int[] {within(0, 12)};
            default: return rowArguments(name);
        }
    }

    private int[] set() {
        int what = within(0, 3);
        int v = what == 0 ? within(1, 999) : what == 1 ? within(0, 99) : what == 2 ? within(0, 10000) : within(0, 1);
        if (what == 0 && random.nextInt(2) > 0) v = 80 + random.nextInt(20);
        return new int[] {what, v};
    }

    private int[] rowArguments(String name) {
        switch (name) {
            case "sheet": return new int[] {within(0, 3), pick(-1, 0, 0, 1, 1, 1, 2), within(0, 24)};
            case "mark": return new int[] {within(0, 3), within(0, pick(3, 8, 23)), mark()};
            case "pour": return new int[] {within(0, 3)};
            case "reads": return new int[] {within(0, 3), coilNumber(), random.nextInt(4) == 0 ? within(1980, 1999) : day()};
            case "copy": return new int[] {within(0, 3), within(0, 4), within(0, 3), within(0, 4), within(0, 6)};
            case "lay": return new int[] {within(0, 4), within(0, 3), random.nextBoolean() ? within(0, 3) : stepNumber()};
            case "ask": return new int[] {within(0, 4), within(0, 5)};
            case "item": return new int[] {within(0, 4), within(0, pick(3, 8, 23))};
            case "rest": return new int[] {within(0, 4), within(-9, 9)};
            default: return new int[0];
        }
    }

    private int mark() {
        switch (random.nextInt(8)) {
            case 0: return FluxWatch.NONE;
            case 1: return random.nextInt();
            case 2: return within(-99999, 99999);
            case 3: return pick(-1000, 1000, 999, -999);
            default: return height();
        }
    }

    // ---- laws

    private boolean law() throws ReflectiveOperationException {
        if (real.count(11) > 0 && !call("trim", 0)) return false;
        String text = pick(0, 1) == 0 ? plainLaw() : anyLaw();
        if (text.length() > 96) text = text.substring(0, 96);
        for (int at = 0; at < text.length(); at += 12) {
            int[] w = new int[3];
            for (int i = 0; i < 12; i++) {
                w[i / 4] = w[i / 4] << 8 | (at + i < text.length() ? text.charAt(at + i) & 255 : ' ');
            }
            if (!call("feed", w)) return false;
        }
        return call("trim", text.length()) && call("text");
    }

    private String plainLaw() {
        String s = pick(0, 1) == 0 ? "s" : "(s+d)";
        switch (random.nextInt(4)) {
            case 0: return "rate " + s + "*" + random.nextInt(60);
            case 1: return "knock " + random.nextInt(500) + "/(1+p)";
            case 2: return "stars " + random.nextInt(300) + "-d";
            default: return "rate " + random.nextInt(999) + "*(s>" + random.nextInt(20) + ")";
        }
    }

    private String anyLaw() {
        String[] keys = {"rate", "knock", "stars"};
        String[] names = {"sdw", "sdp", "sd"};
        int key = random.nextInt(3);
        String e = e(names[key], 3 + random.nextInt(8));
        StringBuilder text = new StringBuilder(keys[key]);
        text.append(" ".repeat(random.nextInt(8) == 0 ? 0 : 1 + random.nextInt(2))).append(e);
        while (random.nextInt(3) == 0) {
            spoil(text);
        }
        return text.toString();
    }

    private void spoil(StringBuilder text) {
        int at = random.nextInt(text.length() + 1);
        String signs = "+-*/|&<=>!()()!!0123sdwpz %.A" + (char) 233;
        switch (random.nextInt(4)) {
            case 0:
                if (at < text.length() && text.length() > 1) text.deleteCharAt(at);
                break;
            case 1:
                text.insert(at, " ");
                break;
            case 2:
                text.insert(at, (pick(0, 1) == 0 ? "(" : "!").repeat(random.nextInt(11)));
                break;
            default:
                text.insert(at, signs.charAt(random.nextInt(signs.length())));
        }
    }

    private String e(String names, int size) {
        String gap = random.nextInt(6) == 0 ? " " : "";
        if (size <= 1) {
            return gap + (random.nextBoolean() ? "" + names.charAt(random.nextInt(names.length())) : "" + random.nextInt(pick(10, 100, 10000)));
        }
        int sort = random.nextInt(9);
        if (sort == 0) return "!".repeat(1 + random.nextInt(8)) + gap + e(names, 1);
        if (sort == 1) return gap + "(" + e(names, size - 1) + ")" + gap;
        if (sort == 2) return "!(" + e(names, size - 1) + ")";
        int left = 1 + random.nextInt(size - 1);
        return e(names, left) + gap + "|&<=>+-*/++**".charAt(random.nextInt(13)) + gap + e(names, size - left);
    }

    // ---- rows that are right, or nearly so

    private boolean rows() throws ReflectiveOperationException {
        int n = 1 + random.nextInt(4);
        if (!call("check", 0) || !call("keep")) return false;
        List<Integer> told = new ArrayList<>();
        for (int i = 0; i < n && real.count(9) < 1999; i++) {
            if (!call("run", 1)) return false;
            told.add(real.count(8));
            told.add(real.count(2));
        }
        if (random.nextInt(4) == 0 && !told.isEmpty()) told.set(random.nextInt(told.size()), 3);
        if (random.nextInt(6) == 0 && !told.isEmpty()) told.remove(told.size() - 1);
        if (random.nextInt(6) == 0) told.add(7);
        for (int v : told) {
            if (!call("tell", v)) return false;
        }
        return call("check", n) && (random.nextInt(4) == 0 || call("back"));
    }
}
