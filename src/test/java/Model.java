import java.util.ArrayList;
import java.util.List;
import java.util.TreeSet;

/**
 * The document once more, written the slow and obvious way and with all of the Java library:
 * what FluxWatch answers is held against it by ModelTest.
 */
final class Model {
    static final int BAD = -1000000001, NO = -1000000002, FULL = -1000000003, NONE = -1000000005;
    static final int NOTHING = -1000000011, KIND = -1000000012, INDEX = -1000000013, SIZE = -1000000014;

    record Coil(int size, int creep, int mate) {}
    record Span(int coil, int from, int to) {
        boolean has(int day) { return from <= day && day <= to; }
    }
    record Step(int kind, int coil, int day, int height) {}
    record Text(int key, String e, int parts) {}
    record Offer(int size, int price) {}

    static final class State {
        int day = 0, belief = 5000, wanted = 80, pen = 4, world = 0, z = 1;
        List<Coil> coils = new ArrayList<>();
        List<Span> watches = new ArrayList<>(), keys = new ArrayList<>();
        List<Step> steps = new ArrayList<>();
        List<Text> texts = new ArrayList<>();
        List<Integer> knocks = new ArrayList<>();
        List<Offer> offers = new ArrayList<>();

        State twin() {
            State s = new State();
            s.day = day; s.belief = belief; s.wanted = wanted; s.pen = pen; s.world = world; s.z = z;
            s.coils.addAll(coils); s.watches.addAll(watches); s.keys.addAll(keys); s.steps.addAll(steps);
            s.texts.addAll(texts); s.knocks.addAll(knocks); s.offers.addAll(offers);
            return s;
        }

        TreeSet<Integer> watched(int d) {
            TreeSet<Integer> set = new TreeSet<>();
            for (Span w : watches) if (w.has(d)) set.add(w.coil);
            return set;
        }

        int seen(int d) {
            int sum = 0;
            for (int c : watched(d)) sum += coils.get(c).size;
            return sum;
        }

        boolean fits(Step s) {
            int h = s.height < 0 ? -s.height : s.height;
            boolean step = h >= wanted - pen && h <= wanted + pen;
            boolean just = step && s.height > 0;
            int mate = coils.get(s.coil).mate;
            return switch (s.kind) {
                case 1 -> just;
                case 3 -> just && mate != NONE && steps.stream().anyMatch(o -> o.coil == mate && o.day == s.day);
                case 4 -> false;
                case 5 -> step && !watched(s.day).contains(s.coil);
                default -> step;
            };
        }

        int worth(Step s) {
            int step = Math.abs(s.height);
            int just = step + wanted;
            int knocked = step / 2;
            return new int[] {step, just, knocked, 2 * just, knocked - 1, 0}[s.kind];
        }

        int line(int c, int d) {
            int sum = coils.get(c).creep * d;
            for (Step s : steps) if (s.coil == c && s.day <= d) sum += s.height;
            return sum;
        }

        int why(int key) {
            for (int i = texts.size() - 1; i >= 0; i--) if (texts.get(i).key == key) return i;
            return NONE;
        }

        int gives(int key, int d, int s, int without) {
            int i = why(key);
            return i < 0 ? without : value(texts.get(i).e, s, d, wanted, pen);
        }

        int r(int d, int more) { return Math.min(999, Math.max(0, gives(0, d, seen(d) + more, seen(d) + more))); }
        int q(int d, int more) { return Math.min(999, Math.max(0, gives(1, d, seen(d) + more, 1))); }
        boolean stepFits(int d) { return steps.stream().anyMatch(s -> s.day == d && fits(s)); }

        int behind(int b, int d, int r, int q) {
            boolean came = stepFits(d);
            long x = (long) b * (came ? r : 1000 - r);
            long y = (long) (10000 - b) * (came ? q : 1000 - q);
            return x + y == 0 ? b : (int) (10000 * x / (x + y));
        }

        int since(int n, int more) {
            int b = belief;
            for (int d = day; d < day + n; d++) b = behind(b, d, r(d, more), q(d, more));
            return b;
        }

        int draw(int by) {
            z = z * 1103515245 + 12345;
            return (z >>> 8) % by;
        }

        void goBy() {
            int r = r(day, 0), q = q(day, 0);
            List<Integer> w = new ArrayList<>(watched(day));
            if (world == 1 && draw(1000) < r && !w.isEmpty() && steps.size() < 40) steps.add(new Step(1, w.get(0), day, wanted));
            if (draw(1000) < q && !w.isEmpty() && steps.size() < 40) {
                int c = w.get(draw(w.size()));
                int h = knocks.isEmpty() ? 1 + draw(99) : knocks.get(draw(knocks.size()));
                steps.add(new Step(2, c, day, h));
            }
            belief = behind(belief, day, r, q);
            day++;
        }
    }

    State s = new State();
    State image = null;
    Object[] sheets = new Object[4];
    Object[] slots = new Object[5];
    List<Integer> waiting = new ArrayList<>();
    StringBuilder tape = new StringBuilder();

    // ---- the value of a text, by cutting it at its loosest sign

    static int value(String e, int s, int d, int w, int p) {
        e = e.strip();
        for (String signs : new String[] {"|", "&", "<=>", "+-", "*/"}) {
            int depth = 0;
            for (int i = e.length() - 1; i > 0; i--) {
                char c = e.charAt(i);
                depth += c == ')' ? 1 : c == '(' ? -1 : 0;
                if (depth == 0 && signs.indexOf(c) >= 0) {
                    int a = value(e.substring(0, i), s, d, w, p), b = value(e.substring(i + 1), s, d, w, p);
                    return switch (c) {
                        case '|' -> a != 0 | b != 0 ? 1 : 0;
                        case '&' -> a != 0 & b != 0 ? 1 : 0;
                        case '<' -> a < b ? 1 : 0;
                        case '=' -> a == b ? 1 : 0;
                        case '>' -> a > b ? 1 : 0;
                        case '+' -> a + b;
                        case '-' -> a - b;
                        case '*' -> a * b;
                        default -> b == 0 ? 0 : a / b;
                    };
                }
            }
        }
        char c = e.charAt(0);
        if (c == '!') return value(e.substring(1), s, d, w, p) == 0 ? 1 : 0;
        if (c == '(') return value(e.substring(1, e.length() - 1), s, d, w, p);
        return switch (c) {
            case 's' -> s;
            case 'd' -> d;
            case 'w' -> w;
            case 'p' -> p;
            default -> Integer.parseInt(e);
        };
    }

    // ---- the fault of a text, by a machine with a stack: each open bracket is a level

    record Token(String word, int at, boolean glued) {}

    static List<Token> tokens(String tape) {
        List<Token> all = new ArrayList<>();
        int i = 0;
        boolean wordAhead = false;
        while (i < tape.length()) {
            if (tape.charAt(i) == ' ') {
                wordAhead = false;
                i++;
                continue;
            }
            int j = i;
            while (j < tape.length() && tape.charAt(j) >= 'a' && tape.charAt(j) <= 'z') j++;
            if (j == i) while (j < tape.length() && tape.charAt(j) >= '0' && tape.charAt(j) <= '9') j++;
            boolean word = j > i;
            if (!word) j++;
            all.add(new Token(tape.substring(i, j), i, word && wordAhead));
            wordAhead = word;
            i = j;
        }
        return all;
    }

    /** The place of the fault, or -1; parts[0] becomes how many numbers and names there are. */
    static int fault(String tape, int[] parts) {
        List<Token> all = tokens(tape);
        if (all.isEmpty()) return tape.length();
        int key = List.of("rate", "knock", "stars").indexOf(all.get(0).word);
        if (key < 0) return all.get(0).at;
        String names = new String[] {"sdw", "sdp", "sd"}[key];
        List<int[]> levels = new ArrayList<>();
        levels.add(new int[] {0, 0});
        boolean wantsPiece = true;
        for (Token t : all.subList(1, all.size())) {
            int[] level = levels.get(levels.size() - 1);
            if (t.glued) return t.at;
            if (wantsPiece) {
                int nots = levels.stream().mapToInt(l -> l[1]).sum();
                if (t.word.equals("(") && levels.size() <= 8) {
                    levels.add(new int[] {0, 0});
                } else if (t.word.equals("!") && nots < 8) {
                    level[1]++;
                } else if (t.word.matches("[0-9]{1,4}") || t.word.matches("[" + names + "]")) {
                    parts[0]++;
                    wantsPiece = false;
                    level[1] = 0;
                } else return t.at;
            } else if (t.word.equals(")") && levels.size() > 1) {
                levels.remove(levels.size() - 1);
                levels.get(levels.size() - 1)[1] = 0;
            } else if (t.word.matches("[-+*/|&]")) {
                if (t.word.matches("[|&]")) level[0] = 0;
                wantsPiece = true;
            } else if (t.word.matches("[<=>]") && level[0] == 0) {
                level[0] = 1;
                wantsPiece = true;
            } else return t.at;
        }
        return wantsPiece || levels.size() > 1 ? tape.length() : -1;
    }

    // ---- the calls

    static boolean in(int v, int least, int most) { return least <= v && v <= most; }
    boolean isCoil(int c) { return in(c, 0, s.coils.size() - 1); }
    boolean isStep(int i) { return in(i, 0, s.steps.size() - 1); }
    static boolean isSpan(int from, int to) { return in(from, 0, 1999) && in(to, 0, 1999) && from <= to; }
    static <T> int more(List<T> list, T one, int room) {
        if (list.size() == room) return FULL;
        list.add(one);
        return list.size() - 1;
    }

    int coil(int size) { return in(size, 1, 9) ? more(s.coils, new Coil(size, 0, NONE), 6) : BAD; }

    int coilTold(int c, int what) {
        if (!isCoil(c) || !in(what, 0, 4)) return BAD;
        Coil k = s.coils.get(c);
        return switch (what) {
            case 0 -> k.size;
            case 1 -> k.creep;
            case 2 -> k.mate;
            case 3 -> s.watched(s.day).contains(c) ? 1 : 0;
            default -> (int) s.steps.stream().filter(x -> x.coil == c).count();
        };
    }

    int creep(int c, int v) {
        if (!isCoil(c) || !in(v, -9, 9)) return BAD;
        Coil k = s.coils.get(c);
        s.coils.set(c, new Coil(k.size, v, k.mate));
        return k.creep;
    }

    void mate(int c, int other) {
        Coil k = s.coils.get(c);
        s.coils.set(c, new Coil(k.size, k.creep, other));
    }

    int pair(int a, int b) {
        if (!isCoil(a) || !isCoil(b) || a == b) return BAD;
        if (s.coils.get(a).mate != NONE || s.coils.get(b).mate != NONE) return NO;
        mate(a, b);
        mate(b, a);
        return 1;
    }

    int part(int c) {
        if (!isCoil(c)) return BAD;
        int m = s.coils.get(c).mate;
        if (m == NONE) return NO;
        mate(c, NONE);
        mate(m, NONE);
        return m;
    }

    int watch(int c, int from, int to) { return isCoil(c) && isSpan(from, to) ? more(s.watches, new Span(c, from, to), 20) : BAD; }
    int seen(int d) { return in(d, 0, 1999) ? s.seen(d) : BAD; }
    int line(int c, int d) { return isCoil(c) && in(d, 0, 1999) ? s.line(c, d) : BAD; }

    int step(int kind, int c, int d, int h) {
        if (!in(kind, 0, 5) || !isCoil(c) || !in(d, 0, s.day) || !in(h, -999, 999)) return BAD;
        return more(s.steps, new Step(kind, c, d, h), 40);
    }

    int told(int i, int what) {
        if (!isStep(i) || !in(what, 0, 5)) return BAD;
        Step x = s.steps.get(i);
        return new int[] {x.kind, x.coil, x.day, x.height, s.fits(x) ? 1 : 0, s.worth(x)}[what];
    }

    static boolean isOf(int kind, int top) {
        return kind == top || top == 0 || kind == 3 && top == 1 || kind == 4 && top == 2;
    }

    int as(int i, int kind) {
        if (!isStep(i) || !in(kind, 0, 5)) return BAD;
        return isOf(s.steps.get(i).kind, kind) ? s.steps.get(i).height : KIND;
    }

    int turns(int i, int kind) {
        if (!isStep(i) || !in(kind, 0, 5)) return BAD;
        Step x = s.steps.get(i);
        s.steps.set(i, new Step(kind, x.coil, x.day, x.height));
        return x.kind;
    }

    int drop(int i) {
        if (!isStep(i)) return BAD;
        s.steps.remove(i);
        return s.steps.size();
    }

    int set(int what, int v) {
        int was;
        if (what == 0 && in(v, 1, 999)) { was = s.wanted; s.wanted = v; return was; }
        if (what == 1 && in(v, 0, 99)) { was = s.pen; s.pen = v; return was; }
        if (what == 2 && in(v, 0, 10000)) { was = s.belief; s.belief = v; return was; }
        if (what == 3 && in(v, 0, 1)) { was = s.world; s.world = v; return was; }
        return BAD;
    }

    int fit() { return (int) s.steps.stream().filter(s::fits).count(); }

    int run(int n) {
        if (!in(n, 1, 60)) return BAD;
        if (s.day + n > 1999) return FULL;
        for (int i = 0; i < n; i++) s.goBy();
        return s.belief;
    }

    int news(int d, int what) {
        if (!in(d, 0, 1999) || !in(what, 0, 2)) return BAD;
        return what == 0 ? s.r(d, 0) : what == 1 ? s.q(d, 0) : s.stepFits(d) ? 1 : 0;
    }

    int since(int n) { return in(n, 0, 200) ? s.since(n, 0) : BAD; }

    int falls(int v) {
        if (!in(v, 0, 10000)) return BAD;
        int b = s.belief;
        for (int d = s.day; d < s.day + 200; d++) {
            b = s.behind(b, d, s.r(d, 0), s.q(d, 0));
            if (b < v) return d;
        }
        return NONE;
    }

    int await() {
        long p = 1000000;
        for (int d = s.day; d < s.day + 200; d++) {
            p = p * (1000 - s.r(d, 0)) / 1000;
            if (p <= 500000) return d;
        }
        return NONE;
    }

    int beyond() {
        if (s.why(2) == NONE) return NONE;
        for (int d = s.day; d < s.day + 200; d++) if (s.r(d, 0) > s.gives(2, d, s.seen(d), 0)) return d;
        return NONE;
    }

    int seed(int v) {
        int was = s.z;
        s.z = v;
        return was;
    }

    int feed(int a, int b, int c) {
        if (tape.length() > 84) return FULL;
        for (int v : new int[] {a, b, c}) for (int i = 3; i >= 0; i--) tape.append((char) (v >> 8 * i & 255));
        return tape.length();
    }

    int trim(int n) {
        if (!in(n, 0, tape.length())) return BAD;
        tape.setLength(n);
        return n;
    }

    int text() {
        String t = tape.toString();
        tape.setLength(0);
        int[] parts = {0};
        int fault = fault(t, parts);
        if (fault >= 0) return -100 - fault;
        String word = tokens(t).get(0).word;
        return more(s.texts, new Text(List.of("rate", "knock", "stars").indexOf(word), t.strip().substring(word.length()), parts[0]), 14);
    }

    int textTold(int i, int what) {
        if (!in(i, 0, s.texts.size() - 1) || !in(what, 0, 1)) return BAD;
        return what == 0 ? s.texts.get(i).key : s.texts.get(i).parts;
    }

    int why(int key) { return in(key, 0, 2) ? s.why(key) : BAD; }
    int knock(int h) { return in(h, -999, 999) ? more(s.knocks, h, 60) : BAD; }

    int pour(int i) {
        if (!in(i, 0, 3)) return BAD;
        if (sheets[i] == null) return NOTHING;
        List<Integer> come = new ArrayList<>();
        for (int p = 0; p < length(sheets[i]); p++) {
            Integer v = at(sheets[i], p);
            if (v == null || !in(v, -999, 999)) break;
            come.add(v);
        }
        if (s.knocks.size() + come.size() > 60) return FULL;
        s.knocks.addAll(come);
        return come.size();
    }

    int chanceBy(int pen) {
        State other = s.twin();
        other.pen = pen;
        if (other.coils.isEmpty()) other.coils.add(new Coil(1, 0, NONE));
        return (int) s.knocks.stream().filter(h -> other.fits(new Step(0, 0, 0, h))).count();
    }

    int chance() { return chanceBy(s.pen); }

    int width(int k) {
        if (!in(k, 0, 60)) return BAD;
        for (int pen = 0; pen < 100; pen++) if (chanceBy(pen) >= k) return pen;
        return NONE;
    }

    int key(int from, int to) { return isSpan(from, to) ? more(s.keys, new Span(0, from, to), 10) : BAD; }
    int keysOn(int d) { return (int) s.keys.stream().filter(k -> k.has(d)).count(); }
    int keys(int d) { return in(d, 0, 1999) ? keysOn(d) : BAD; }
    int jokes() { return (int) s.steps.stream().filter(x -> s.fits(x) && keysOn(x.day) > 0).count(); }
    int offer(int size, int price) { return in(size, 1, 9) && in(price, 0, 999) ? more(s.offers, new Offer(size, price), 8) : BAD; }

    int clear() {
        int were = s.offers.size();
        s.offers.clear();
        return were;
    }

    /** The sets for a sum: their bits, size, price. */
    List<int[]> sets(int sum) {
        List<int[]> all = new ArrayList<>();
        for (int bits = 0; bits < 1 << s.offers.size(); bits++) {
            int size = 0, price = 0;
            for (int i = 0; i < s.offers.size(); i++) {
                if ((bits & 1 << i) != 0) {
                    size += s.offers.get(i).size;
                    price += s.offers.get(i).price;
                }
            }
            if (price <= sum) all.add(new int[] {bits, size, price});
        }
        return all;
    }

    int best(int sum, int what) {
        if (!in(sum, 0, 9999) || !in(what, 0, 2)) return BAD;
        List<int[]> all = sets(sum);
        all.sort((a, b) -> a[1] != b[1] ? b[1] - a[1] : a[2] != b[2] ? a[2] - b[2] : a[0] - b[0]);
        return all.get(0)[what];
    }

    int soonest(int sum, int v, int what) {
        if (!in(sum, 0, 9999) || !in(v, 0, 10000) || !in(what, 0, 2)) return BAD;
        List<int[]> found = new ArrayList<>();
        for (int[] set : sets(sum)) {
            int b = s.belief;
            for (int n = 1; n <= 60; n++) {
                int d = s.day + n - 1;
                b = s.behind(b, d, s.r(d, set[1]), s.q(d, set[1]));
                if (b < v) {
                    found.add(new int[] {set[0], n, set[2]});
                    break;
                }
            }
        }
        if (found.isEmpty()) return NONE;
        found.sort((x, y) -> x[1] != y[1] ? x[1] - y[1] : x[2] != y[2] ? x[2] - y[2] : x[0] - y[0]);
        return found.get(0)[what];
    }

    static int length(Object row) { return row instanceof short[] a ? a.length : ((float[]) row).length; }

    static Integer at(Object row, int p) {
        if (row instanceof short[] a) return (int) a[p];
        float f = ((float[]) row)[p];
        return Float.isNaN(f) ? null : (Integer) (int) f;
    }

    int sheet(int i, int sort, int n) {
        if (!in(i, 0, 3) || !in(sort, -1, 1)) return BAD;
        if (sort == -1) {
            sheets[i] = null;
            return 0;
        }
        if (n > 24) return BAD;
        if (n < 0) return SIZE;
        sheets[i] = sort == 0 ? new short[n] : new float[n];
        return n;
    }

    int mark(int i, int p, int v) {
        if (!in(i, 0, 3)) return BAD;
        if (sheets[i] == null) return NOTHING;
        if (!in(p, 0, length(sheets[i]) - 1)) return INDEX;
        if (sheets[i] instanceof short[] a) {
            if (v == NONE) return KIND;
            a[p] = (short) v;
        } else {
            if (v != NONE && !in(v, -99999, 99999)) return BAD;
            ((float[]) sheets[i])[p] = v == NONE ? Float.NaN : v;
        }
        return 1;
    }

    int reads(int i, int c, int d) {
        if (!in(i, 0, 3) || !isCoil(c) || !in(d, 0, 1999)) return BAD;
        if (sheets[i] == null) return NOTHING;
        for (int p = 0; p < length(sheets[i]); p++) {
            Integer v = at(sheets[i], p);
            if (v != null && v != s.line(c, d + p)) return p;
        }
        return NONE;
    }

    int copy(int from, int place, int to, int at, int many) {
        if (!in(from, 0, 3) || !in(to, 0, 3)) return BAD;
        try {
            System.arraycopy(sheets[from], place, sheets[to], at, many);
        } catch (NullPointerException e) {
            return NOTHING;
        } catch (ArrayStoreException e) {
            return KIND;
        } catch (IndexOutOfBoundsException e) {
            return INDEX;
        }
        return many;
    }

    static int thing(Object o) { return o == null ? 0 : o instanceof Step ? 1 : o instanceof Integer ? 3 : 2; }

    int lay(int i, int thing, int k) {
        if (!in(i, 0, 4) || !in(thing, 0, 3) || thing == 1 && !isStep(k) || thing == 2 && !in(k, 0, 3)) return BAD;
        if (thing == 2 && sheets[k] == null) return NOTHING;
        int was = thing(slots[i]);
        slots[i] = switch (thing) {
            case 0 -> null;
            case 1 -> s.steps.get(k);
            case 2 -> sheets[k] instanceof short[] a ? a.clone() : ((float[]) sheets[k]).clone();
            default -> (Integer) k;
        };
        return was;
    }

    int ask(int i, int kind) {
        if (!in(i, 0, 4) || !in(kind, 0, 5)) return BAD;
        if (slots[i] == null) return NOTHING;
        return slots[i] instanceof Step x && isOf(x.kind, kind) ? s.worth(x) : KIND;
    }

    int item(int i, int p) {
        if (!in(i, 0, 4)) return BAD;
        if (slots[i] == null) return NOTHING;
        if (thing(slots[i]) != 2) return KIND;
        if (!in(p, 0, length(slots[i]) - 1)) return INDEX;
        Integer v = at(slots[i], p);
        return v == null ? KIND : v;
    }

    int rest(int i, int n) {
        if (!in(i, 0, 4)) return BAD;
        if (slots[i] == null) return NOTHING;
        if (!(slots[i] instanceof Integer k)) return KIND;
        return n == 0 ? NO : k % n;
    }

    int tell(int v) {
        if (waiting.size() == 60) return FULL;
        waiting.add(v);
        return waiting.size();
    }

    int check(int n) {
        List<Integer> told = waiting;
        waiting = new ArrayList<>();
        if (!in(n, 1, 30)) return BAD;
        if (image == null) return NO;
        List<Integer> due = new ArrayList<>();
        State other = image.twin();
        for (int i = 0; i < n; i++) {
            other.goBy();
            due.add(other.belief);
            due.add(other.steps.size());
        }
        if (told.equals(due)) return 0;
        int same = 0;
        while (same < told.size() && same < due.size() && told.get(same).equals(due.get(same))) same++;
        return 1 + same;
    }

    int keep() {
        image = s.twin();
        return s.day;
    }

    int back() {
        if (image == null) return NO;
        s = image.twin();
        return s.day;
    }

    int count(int what) {
        if (!in(what, 0, 12)) return BAD;
        int pairs = (int) s.coils.stream().filter(c -> c.mate != NONE).count() / 2;
        return new int[] {s.coils.size(), s.watches.size(), s.steps.size(), s.texts.size(), s.knocks.size(), s.keys.size(),
            s.offers.size(), pairs, s.belief, s.day, waiting.size(), tape.length(), s.z}[what];
    }
}
