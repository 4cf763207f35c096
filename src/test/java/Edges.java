import java.util.ArrayList;
import java.util.List;
import java.util.Set;
import java.util.TreeSet;

/**
 * Runs edges: each is one sentence of a promise with a script of its own on a new object. Besides the answers
 * that are due, each call that is refused or that only asks is held to change nothing: an object on which it was
 * made must answer everything as one on which it was not.
 */
final class Edges {
    private static final int CALLS = 512;
    private static final Set<Integer> REFUSALS = Set.of(FluxWatch.BAD, FluxWatch.NO, FluxWatch.FULL, FluxWatch.NONE,
        FluxWatch.NOTHING, FluxWatch.KIND, FluxWatch.INDEX, FluxWatch.SIZE);
    private static final Set<String> ASKING = Set.of("coilTold", "seen", "line", "told", "as", "fit", "news", "since", "falls",
        "await", "beyond", "textTold", "why", "chance", "width", "keys", "jokes", "best", "soonest", "reads", "ask", "item",
        "rest", "check", "count");

    private final Set<Integer> promises = new TreeSet<>();
    private int edges = 0;
    private int answers = 0;
    private int wrong = 0;

    void edge(int promise, String sentence, String script) {
        List<Call> calls = Call.script(script);
        String name = "promise " + promise + ", " + sentence;
        promises.add(promise);
        edges++;
        if (calls.size() > CALLS) {
            fault(name, "the script has " + calls.size() + " calls");
            return;
        }
        try {
            run(name, calls);
        } catch (IllegalStateException e) {
            fault(name, e.getMessage());
        }
    }

    /** An edge that no script of one object can tell. */
    void due(int promise, String sentence, int got, int want) {
        promises.add(promise);
        edges++;
        answers++;
        if (got != want) {
            fault("promise " + promise + ", " + sentence, "answered " + got + ", due is " + want);
        }
    }

    private void run(String name, List<Call> calls) {
        FluxWatch x = new FluxWatch();
        int dues = 0;
        for (int i = 0; i < calls.size(); i++) {
            Call call = calls.get(i);
            int got = call.on(x);
            if (call.due() == null) {
                continue;
            }
            dues++;
            if (got != call.due()) {
                fault(name, "call " + i + " " + call + " answered " + got + ", due is " + call.due());
                return;
            }
            if (REFUSALS.contains(got) || ASKING.contains(call.name()) || call.name().equals("text") && got < 0) {
                changesNothing(name, calls, i);
            }
        }
        answers += dues;
        if (dues == 0) {
            fault(name, "nothing is due");
        }
    }

    private void changesNothing(String name, List<Call> calls, int at) {
        // The same refusal again and again is looked at once.
        if (at > 0 && calls.get(at - 1).toString().equals(calls.get(at).toString())) {
            return;
        }
        List<Call> with = calls.subList(0, at + 1);
        List<Call> without = new ArrayList<>(calls.subList(0, at));
        without.addAll(Call.script(usesUp(calls.get(at).name())));
        for (int part = 0; part < Probe.PARTS; part++) {
            if (!probed(with, part).equals(probed(without, part))) {
                fault(name, "call " + at + " " + calls.get(at) + " changes something (part " + part + " of the probe)");
                return;
            }
        }
    }

    /** What stands in for a call that uses up the tape, or the numbers that wait. */
    private static String usesUp(String call) {
        return switch (call) {
            case "text" -> "trim(0)";
            case "check" -> "check(0)";
            default -> "";
        };
    }

    private static List<Integer> probed(List<Call> calls, int part) {
        FluxWatch x = new FluxWatch();
        for (Call call : calls) {
            call.on(x);
        }
        return Probe.of(x, part, calls.size());
    }

    private void fault(String name, String what) {
        wrong++;
        System.out.println(name + ": " + what);
    }

    /** Ends the program: with 1 if an edge does not hold, or if a promise from the first to the last has none. */
    void end(int first, int last) {
        for (int promise = first; promise <= last; promise++) {
            if (!promises.contains(promise)) {
                fault("promise " + promise, "it has no edge");
            }
        }
        System.out.println(edges + " edges with " + answers + " answers, " + wrong + " not as due");
        if (wrong != 0) {
            System.exit(1);
        }
    }
}
