import java.util.ArrayList;
import java.util.Arrays;
import java.util.Comparator;
import java.util.List;
import java.util.Map;
import java.util.Optional;
import java.util.TreeMap;
import java.util.function.Consumer;
import java.util.function.ToIntFunction;
import java.util.regex.Matcher;
import java.util.regex.Pattern;

/**
 * The document once more, written in another way than the program: kinds are classes, sheets are Java's own arrays,
 * texts are trees, and what the host refuses is what Java throws.
 */
final class Model {
    private static final int NONE = -1, BAD = -2, STATE = -3, FULL = -4;

    // ---- people

    static class Tenant implements Cloneable {
        int id, number, strip = NONE, held, warned, waits;
        boolean gone;

        int tends(int v) {
            return v;
        }

        boolean stays(int v) {
            return held < v;
        }

        boolean bears() {
            return true;
        }

        boolean has() {
            return !gone && strip != NONE;
        }

        boolean queues() {
            return !gone && strip == NONE;
        }

        Tenant twin() {
            try {
                return (Tenant) clone();
            } catch (CloneNotSupportedException e) {
                throw new IllegalStateException(e);
            }
        }

        Tenant as(Tenant other) {
            other.id = id;
            other.number = number;
            other.strip = strip;
            other.held = held;
            other.warned = warned;
            other.waits = waits;
            other.gone = gone;
            return other;
        }
    }

    static class Keen extends Tenant {
        @Override int tends(int v) {
            return super.tends(v) * 2;
        }

        @Override boolean stays(int v) {
            return super.stays(v * 2);
        }

        @Override boolean bears() {
            return false;
        }
    }

    static class Idle extends Tenant {
        @Override int tends(int v) {
            return warned > 0 ? super.tends(v) : 0;
        }
    }

    static class Pensioner extends Keen {
        @Override int tends(int v) {
            return super.tends(v) - held / 4;
        }

        @Override boolean stays(int v) {
            return held < 30;
        }
    }

    static class Heir extends Idle {
        @Override int tends(int v) {
            return super.tends(v) + number;
        }

        @Override boolean stays(int v) {
            return super.stays(v) || number > 6;
        }
    }

    static class Fencer extends Tenant {
        @Override int tends(int v) {
            return super.tends(v) - 3;
        }

        @Override boolean stays(int v) {
            return true;
        }

        @Override boolean bears() {
            return (number & 1) == 1;
        }
    }

    private static final List<Class<? extends Tenant>> CLASSES =
        List.of(Tenant.class, Keen.class, Idle.class, Pensioner.class, Heir.class, Fencer.class);

    static Tenant ofKind(int kind) {
        return switch (kind) {
            case 0 -> new Tenant();
            case 1 -> new Keen();
            case 2 -> new Idle();
            case 3 -> new Pensioner();
            case 4 -> new Heir();
            case 5 -> new Fencer();
            default -> throw new IllegalArgumentException();
        };
    }

    // ---- texts

    record Text(ToIntFunction<Map<String, Integer>> digs, ToIntFunction<Map<String, Integer>> weeds,
                ToIntFunction<Map<String, Integer>> stays) { }

    static final class Fault extends RuntimeException {
        final int place;

        Fault(int place) {
            super(null, null, false, false);
            this.place = place;
        }
    }

    record Token(String word, int place) { }

    /** A grammar over a list of tokens; the words "?" and "" are none and the end. */
    static final class Grammar {
        private static final Pattern TOKEN = Pattern.compile("[a-z]+|[0-9]+|[-();+*<=]|(?s:.)");
        private static final List<String> NAMES = List.of("number", "year", "level", "held", "strip", "warned");
        private static final List<String> KEYS = List.of("digs", "weeds", "stays", "or", "and", "not");
        private final List<Token> tokens = new ArrayList<>();
        private int at;
        private int open;

        Grammar(String tape) {
            Matcher m = TOKEN.matcher(tape);
            while (m.find()) {
                String w = m.group();
                if (w.equals(" ") || w.equals("\n")) {
                    continue;
                }
                boolean known = w.matches("[0-9]{1,4}") || NAMES.contains(w) || KEYS.contains(w) || w.matches("[-();+*<=]");
                tokens.add(new Token(known ? w : "?", m.start()));
            }
            tokens.add(new Token("", tape.length()));
        }

        private String word() {
            return tokens.get(at).word;
        }

        private Fault fault() {
            return new Fault(tokens.get(at).place);
        }

        private void must(String word) {
            if (!word().equals(word)) {
                throw fault();
            }
            at++;
        }

        private boolean may(String word) {
            if (!word().equals(word)) {
                return false;
            }
            at++;
            return true;
        }

        private void opens() {
            if (open == 5) {
                throw fault();
            }
            open++;
            at++;
        }

        Text whole() {
            must("digs");
            var d = e();
            must(";");
            must("weeds");
            var w = e();
            must(";");
            must("stays");
            var s = e();
            must(";");
            if (!word().isEmpty()) {
                throw fault();
            }
            return new Text(d, w, s);
        }

        private ToIntFunction<Map<String, Integer>> e() {
            var first = and();
            while (may("or")) {
                var a = first;
                var b = and();
                first = n -> a.applyAsInt(n) != 0 | b.applyAsInt(n) != 0 ? 1 : 0;
            }
            return first;
        }

        private ToIntFunction<Map<String, Integer>> and() {
            var first = not();
            while (may("and")) {
                var a = first;
                var b = not();
                first = n -> a.applyAsInt(n) != 0 & b.applyAsInt(n) != 0 ? 1 : 0;
            }
            return first;
        }

        private ToIntFunction<Map<String, Integer>> not() {
            if (word().equals("not")) {
                opens();
                var a = not();
                open--;
                return n -> a.applyAsInt(n) == 0 ? 1 : 0;
            }
            var a = sum();
            if (may("<")) {
                var b = sum();
                return n -> a.applyAsInt(n) < b.applyAsInt(n) ? 1 : 0;
            }
            if (may("=")) {
                var b = sum();
                return n -> a.applyAsInt(n) == b.applyAsInt(n) ? 1 : 0;
            }
            return a;
        }

        private ToIntFunction<Map<String, Integer>> sum() {
            var first = term();
            while (word().equals("+") || word().equals("-")) {
                int sign = may("+") ? 1 : -1;
                if (sign < 0) {
                    must("-");
                }
                var a = first;
                var b = term();
                first = n -> a.applyAsInt(n) + sign * b.applyAsInt(n);
            }
            return first;
        }

        private ToIntFunction<Map<String, Integer>> term() {
            var first = one();
            while (may("*")) {
                var a = first;
                var b = one();
                first = n -> a.applyAsInt(n) * b.applyAsInt(n);
            }
            return first;
        }

        private ToIntFunction<Map<String, Integer>> one() {
            String w = word();
            if (w.equals("-")) {
                opens();
                var a = one();
                open--;
                return n -> -a.applyAsInt(n);
            }
            if (w.equals("(")) {
                opens();
                var a = e();
                must(")");
                open--;
                return a;
            }
            if (w.matches("[0-9]+")) {
                at++;
                int v = Integer.parseInt(w);
                return n -> v;
            }
            if (NAMES.contains(w)) {
                at++;
                return n -> n.get(w);
            }
            throw fault();
        }
    }

    // ---- the garden

    static final class World {
        int year, limit = 30, letters = 3, rule;
        final int[] tended = {50, 50, 50, 50, 50, 50};
        final boolean[] wet = new boolean[6];
        final List<Tenant> people = new ArrayList<>();
        final List<Text> texts;

        World(List<Text> texts) {
            this.texts = texts;
        }

        World twin() {
            World w = new World(texts);
            w.year = year;
            w.limit = limit;
            w.letters = letters;
            w.rule = rule;
            System.arraycopy(tended, 0, w.tended, 0, 6);
            System.arraycopy(wet, 0, w.wet, 0, 6);
            people.forEach(p -> w.people.add(p.twin()));
            return w;
        }

        Optional<Tenant> on(int strip) {
            return people.stream().filter(p -> p.has() && p.strip == strip).findFirst();
        }

        List<Tenant> queue() {
            return people.stream().filter(Tenant::queues)
                .sorted(Comparator.comparingInt((Tenant p) -> -p.waits).thenComparingInt(p -> p.id)).toList();
        }

        int told(ToIntFunction<Map<String, Integer>> e, int strip, Tenant p) {
            Map<String, Integer> names = new TreeMap<>();
            names.put("number", p == null ? 0 : p.number);
            names.put("year", year);
            names.put("level", tended[strip]);
            names.put("held", p == null ? 0 : p.held);
            names.put("strip", strip);
            names.put("warned", p == null ? 0 : p.warned);
            int v = e.applyAsInt(names);
            return v < 0 ? 0 : v > 99 ? 99 : v;
        }

        int tends(Tenant p) {
            return Math.max(0, p.tends(told(texts.get(rule).digs, p.strip, p)));
        }

        boolean stays(Tenant p) {
            return p.stays(told(texts.get(rule).stays, p.strip, p));
        }

        void pass() {
            for (int s = 0; s < 6; s++) {
                Tenant p = on(s).orElse(null);
                int grown = told(texts.get(rule).weeds, s, p) * (wet[s] ? 2 : 1);
                tended[s] = Math.max(0, tended[s] - grown);
                if (p != null) {
                    tended[s] = Math.min(99, tended[s] + tends(p));
                }
            }
            for (Tenant p : people) {
                if (!p.has()) {
                    continue;
                }
                if (tended[p.strip] < limit && p.warned < 9) {
                    p.warned++;
                }
                if (p.warned >= letters) {
                    p.gone = true;
                } else {
                    p.held = Math.min(999, p.held + 1);
                    p.gone = !stays(p);
                }
            }
            queue().forEach(p -> p.waits = Math.min(999, p.waits + 1));
            for (int s = 0; s < 6; s++) {
                if (on(s).isEmpty()) {
                    int strip = s;
                    queue().stream().filter(p -> !wet[strip] || p.bears()).findFirst().ifPresent(p -> settle(p, strip));
                }
            }
            year++;
        }

        void settle(Tenant p, int strip) {
            p.strip = strip;
            p.held = 0;
            p.warned = 0;
        }

        World after(int n) {
            World w = twin();
            for (int i = 0; i < n; i++) {
                w.pass();
            }
            return w;
        }

        int well() {
            return Arrays.stream(tended).sum();
        }

        World supposing(Consumer<World> change) {
            World w = twin();
            change.accept(w);
            return w;
        }

        int drawn(int seed, int n) {
            World w = twin();
            int z = seed;
            for (int i = 0; i < n; i++) {
                for (int s = 0; s < 6; s++) {
                    z = z * 1103515245 + 12345;
                    w.tended[s] = Math.max(0, w.tended[s] - (z >>> 9) % 20);
                }
                w.pass();
            }
            return w.well();
        }
    }

    private final List<Text> texts = new ArrayList<>();
    private final StringBuilder tape = new StringBuilder();
    private final Object[] sheets = new Object[4];
    private World world = new World(texts);
    private World image;

    Model() {
        texts.add(new Grammar("digs 9 ; weeds 12 ; stays 20 ;").whole());
    }

    private static boolean out(int v, int least, int most) {
        return v < least || v > most;
    }

    private Tenant person(int one) {
        return out(one, 0, world.people.size() - 1) ? null : world.people.get(one);
    }

    int set(int what, int of, int v) {
        int was = told(of, what);
        int most = switch (what) {
            case 0, 6, 8 -> 999;
            case 1, 3 -> 99;
            case 2, 5, 7 -> 9;
            case 4 -> 1;
            default -> -1;
        };
        if (was == BAD || out(v, what == 2 ? 1 : 0, most)) {
            return BAD;
        }
        switch (what) {
            case 0 -> world.year = v;
            case 1 -> world.limit = v;
            case 2 -> world.letters = v;
            case 3 -> world.tended[of] = v;
            case 4 -> world.wet[of] = v == 1;
            case 5 -> person(of).number = v;
            case 6 -> person(of).held = v;
            case 7 -> person(of).warned = v;
            default -> person(of).waits = v;
        }
        return was;
    }

    int tenant(int kind, int number) {
        if (out(kind, 0, 5) || out(number, 0, 9)) {
            return BAD;
        }
        if (world.people.size() == 8) {
            return FULL;
        }
        Tenant p = ofKind(kind);
        p.id = world.people.size();
        p.number = number;
        world.people.add(p);
        return p.id;
    }

    private static int place(Tenant p) {
        return p.gone ? -5 : p.strip;
    }

    int told(int of, int what) {
        Tenant p = person(of);
        boolean strip = !out(of, 0, 5);
        boolean has = p != null && p.has();
        return switch (what) {
            case 0 -> world.year;
            case 1 -> world.limit;
            case 2 -> world.letters;
            case 3 -> strip ? world.tended[of] : BAD;
            case 4 -> strip ? world.wet[of] ? 1 : 0 : BAD;
            case 5 -> p != null ? p.number : BAD;
            case 6 -> has ? p.held : BAD;
            case 7 -> has ? p.warned : BAD;
            case 8 -> p != null && p.queues() ? p.waits : BAD;
            case 9 -> p != null ? CLASSES.indexOf(p.getClass()) : BAD;
            case 10 -> p != null ? place(p) : BAD;
            case 11 -> strip ? world.on(of).map(q -> q.id).orElse(NONE) : BAD;
            case 12 -> has ? world.tends(p) : BAD;
            case 13 -> has ? world.stays(p) ? 1 : 0 : BAD;
            default -> BAD;
        };
    }

    int give(int one, int strip) {
        Tenant p = person(one);
        if (p == null || out(strip, 0, 5)) {
            return BAD;
        }
        if (!p.queues()) {
            return STATE;
        }
        if (world.on(strip).isPresent()) {
            return FULL;
        }
        world.settle(p, strip);
        return strip;
    }

    int strikeOff(int one) {
        Tenant p = person(one);
        if (p == null) {
            return BAD;
        }
        if (p.gone) {
            return STATE;
        }
        p.gone = true;
        return p.strip;
    }

    int list(int k) {
        List<Tenant> queue = world.queue();
        return out(k, 0, queue.size() - 1) ? NONE : queue.get(k).id;
    }

    int feed(int letter) {
        if (out(letter, 0, 255)) {
            return BAD;
        }
        if (tape.length() == 160) {
            return FULL;
        }
        return tape.append((char) letter).length();
    }

    int text() {
        if (texts.size() == 6) {
            return FULL;
        }
        String bytes = tape.toString();
        tape.setLength(0);
        try {
            texts.add(new Grammar(bytes).whole());
            return texts.size() - 1;
        } catch (Fault f) {
            return -100 - f.place;
        }
    }

    int force(int text) {
        if (out(text, 0, texts.size() - 1)) {
            return BAD;
        }
        int was = world.rule;
        world.rule = text;
        return was;
    }

    int year() {
        if (world.year == 999) {
            return STATE;
        }
        world.pass();
        return count(3);
    }

    int run(int n, int what) {
        if (out(n, 0, 30)) {
            return BAD;
        }
        World w = world.after(n);
        if (!out(what, 10, 15)) {
            return w.tended[what - 10];
        }
        if (!out(what, 20, 25)) {
            return w.on(what - 20).map(p -> p.id).orElse(NONE);
        }
        if (what >= 30 && person(what - 30) != null) {
            return place(w.people.get(what - 30));
        }
        return switch (what) {
            case 0 -> (int) (6 - w.people.stream().filter(Tenant::has).count());
            case 1 -> (int) Arrays.stream(w.tended).filter(t -> t < w.limit).count();
            case 2 -> (int) w.people.stream().filter(p -> p.gone).count();
            case 3 -> w.queue().size();
            case 4 -> w.well();
            default -> BAD;
        };
    }

    int takes(int one) {
        if (person(one) == null) {
            return BAD;
        }
        for (int n = 0; n <= 30; n++) {
            if (!world.after(n).people.get(one).queues()) {
                return n;
            }
        }
        return NONE;
    }

    /** Of wells by candidates the most, the first of like ones; least: what must be passed. */
    private int best(TreeMap<Integer, Integer> wells, int least, int what, int n) {
        int found = NONE;
        int most = least;
        for (Map.Entry<Integer, Integer> e : wells.entrySet()) {
            if (e.getValue() > most) {
                found = e.getKey();
                most = e.getValue();
            }
        }
        return what == 0 ? found : found == NONE ? world.after(n).well() : most;
    }

    int strict(int n, int what) {
        if (out(n, 0, 30) || out(what, 0, 1)) {
            return BAD;
        }
        TreeMap<Integer, Integer> wells = new TreeMap<>();
        for (int i = 0; i < 100; i++) {
            int limit = i;
            wells.put(i, world.supposing(w -> w.limit = limit).after(n).well());
        }
        return best(wells, -1, what, n);
    }

    int outOfTurn(int strip, int n, int what) {
        if (out(strip, 0, 5) || out(n, 0, 30) || out(what, 0, 1)) {
            return BAD;
        }
        if (world.on(strip).isPresent()) {
            return STATE;
        }
        TreeMap<Integer, Integer> wells = new TreeMap<>();
        for (Tenant p : world.queue()) {
            wells.put(p.id, world.supposing(w -> w.settle(w.people.get(p.id), strip)).after(n).well());
        }
        return best(wells, -1, what, n);
    }

    int drain(int n, int what) {
        if (out(n, 0, 30) || out(what, 0, 1)) {
            return BAD;
        }
        TreeMap<Integer, Integer> wells = new TreeMap<>();
        for (int s = 0; s < 6; s++) {
            int strip = s;
            wells.put(s, world.supposing(w -> w.wet[strip] = false).after(n).well());
        }
        return best(wells, world.after(n).well(), what, n);
    }

    int strike(int n, int what) {
        if (out(n, 0, 30) || out(what, 0, 1)) {
            return BAD;
        }
        TreeMap<Integer, Integer> wells = new TreeMap<>();
        for (Tenant p : world.people) {
            wells.put(p.id, world.supposing(w -> w.people.get(p.id).gone = true).after(n).well());
        }
        return best(wells, world.after(n).well(), what, n);
    }

    int change(int n, int what) {
        if (out(n, 0, 30) || out(what, 0, 1)) {
            return BAD;
        }
        TreeMap<Integer, Integer> wells = new TreeMap<>();
        for (Tenant p : world.people) {
            for (Tenant q : world.people) {
                if (p.id < q.id && p.has() && q.has()) {
                    wells.put(10 * p.id + q.id, world.supposing(w -> {
                        w.people.get(p.id).strip = q.strip;
                        w.people.get(q.id).strip = p.strip;
                    }).after(n).well());
                }
            }
        }
        return best(wells, world.after(n).well(), what, n);
    }

    private static int[] row(Object sheet) {
        int n = java.lang.reflect.Array.getLength(sheet);
        int[] row = new int[n];
        for (int i = 0; i < n; i++) {
            row[i] = java.lang.reflect.Array.getInt(sheet, i);
        }
        return row;
    }

    private static int otherwise(World from, int strip, int[] row) {
        World w = from.twin();
        for (int i = 0; i < row.length; i++) {
            w.pass();
            if (w.tended[strip] != row[i]) {
                return i;
            }
        }
        return NONE;
    }

    int tells(int sheet, int strip, int what) {
        if (out(sheet, 0, 3) || out(strip, 0, 5) || out(what, 0, 5)) {
            return BAD;
        }
        if (sheets[sheet] == null) {
            return -11;
        }
        int[] row = row(sheets[sheet]);
        if (row.length > 30) {
            return BAD;
        }
        if (what == 0) {
            return otherwise(world, strip, row);
        }
        Tenant p = world.on(strip).orElse(null);
        int many = what == 1 ? texts.size() : what <= 3 ? 100 : p == null ? 0 : what == 4 ? 6 : 10;
        List<Integer> fit = new ArrayList<>();
        for (int i = 0; i < many; i++) {
            int c = i;
            World w = world.supposing(v -> {
                switch (what) {
                    case 1 -> v.rule = c;
                    case 2, 3 -> v.tended[strip] = c;
                    case 4 -> v.people.set(p.id, v.people.get(p.id).as(ofKind(c)));
                    default -> v.people.get(p.id).number = c;
                }
            });
            if (otherwise(w, strip, row) == NONE) {
                fit.add(c);
            }
        }
        return what == 2 ? fit.size() : what == 3 ? fit.stream().findFirst().orElse(NONE)
            : fit.stream().mapToInt(c -> 1 << c).sum();
    }

    int film(int sheet, int strip, int n) {
        if (out(sheet, 0, 3) || out(strip, 0, 5) || out(n, 0, 30)) {
            return BAD;
        }
        byte[] row = new byte[n];
        for (int i = 0; i < n; i++) {
            row[i] = (byte) world.after(i + 1).tended[strip];
        }
        sheets[sheet] = row;
        return n;
    }

    int drawn(int seed, int n) {
        return out(n, 0, 30) ? BAD : world.drawn(seed, n);
    }

    long chance(int seed, int m, int k, int part) {
        if (out(m, 1, 20) || out(k, 0, 594) || out(part, 0, 1)) {
            return -4611686018427387904L;
        }
        int hits = 0;
        for (int i = 0; i < m; i++) {
            hits += world.drawn(seed + i, 10) >= k ? 1 : 0;
        }
        int d = java.math.BigInteger.valueOf(hits).gcd(java.math.BigInteger.valueOf(m)).intValue();
        return (part == 0 ? hits : m) / d;
    }

    int image() {
        image = world.twin();
        return image.people.size();
    }

    int back() {
        if (image == null) {
            return STATE;
        }
        world = image.twin();
        return world.people.size();
    }

    int count(int what) {
        return switch (what) {
            case 0 -> world.people.size();
            case 1 -> (int) world.people.stream().filter(Tenant::has).count();
            case 2 -> world.queue().size();
            case 3 -> (int) world.people.stream().filter(p -> p.gone).count();
            case 4 -> world.year;
            case 5 -> texts.size();
            case 6 -> tape.length();
            case 7 -> world.rule;
            default -> BAD;
        };
    }

    int sheet(int sheet, int sort, int n) {
        if (out(sheet, 0, 3) || out(sort, -1, 2) || (sort >= 0 && n > 40)) {
            return BAD;
        }
        try {
            sheets[sheet] = switch (sort) {
                case 0 -> new byte[n];
                case 1 -> new short[n];
                case 2 -> new int[n];
                default -> null;
            };
            return 1;
        } catch (NegativeArraySizeException e) {
            return -14;
        }
    }

    int cell(int sheet, int i, int v) {
        if (out(sheet, 0, 3)) {
            return BAD;
        }
        try {
            if (sheets[sheet] instanceof byte[] b) {
                b[i] = (byte) v;
            } else if (sheets[sheet] instanceof short[] s) {
                s[i] = (short) v;
            } else {
                ((int[]) sheets[sheet])[i] = v;
            }
            return 1;
        } catch (NullPointerException e) {
            return -11;
        } catch (IndexOutOfBoundsException e) {
            return -12;
        }
    }

    int copy(int sheet, int i, int other, int j, int n) {
        if (out(sheet, 0, 3) || out(other, 0, 3)) {
            return BAD;
        }
        try {
            System.arraycopy(sheets[sheet], i, sheets[other], j, n);
            return n;
        } catch (NullPointerException e) {
            return -11;
        } catch (ArrayStoreException e) {
            return -13;
        } catch (IndexOutOfBoundsException e) {
            return -12;
        }
    }

    int tenants(int sheet, int sort, int from, int n) {
        if (out(sheet, 0, 3) || out(sort, 0, 2) || out(n, 0, 8)) {
            return BAD;
        }
        try {
            int size = sort == 0 ? ((byte[]) sheets[sheet]).length
                : sort == 1 ? ((short[]) sheets[sheet]).length : ((int[]) sheets[sheet]).length;
            int[] row = row(sheets[sheet]);
            int came = 0;
            for (int i = 0; i < n && size >= 0; i++) {
                came += tenant(row[from + 2 * i], row[from + 2 * i + 1]) >= 0 ? 1 : 0;
            }
            return came;
        } catch (ClassCastException e) {
            return -13;
        } catch (NullPointerException e) {
            return -11;
        } catch (IndexOutOfBoundsException e) {
            return -12;
        }
    }

    int taken(int one, int k) {
        if (out(k, 0, 5)) {
            return BAD;
        }
        Tenant p = person(one);
        if (p == null) {
            return -11;
        }
        try {
            return CLASSES.get(k).cast(p).number;
        } catch (ClassCastException e) {
            return -13;
        }
    }
}
